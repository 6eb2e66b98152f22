def wp_X6_symmetries (zz : Nat → Int32) (post : Int32 → Prop) : Prop :=
  ∀ (P5 : Int32 → Int32 → Prop), (∀ (v1_1 : Int32) (v2_2 : Int32), ((((8 : Int32) ≤ v2_2) → post v1_1) ∧ ((¬ (8 : Int32) ≤ v2_2) → ∀ (P13 : Int32 → Int32 → Prop), (∀ (v1_3 : Int32) (v3_4 : Int32), ((((8 : Int32) ≤ v3_4) → P5 v1_3 (v2_2 + (1 : Int32))) ∧ ((¬ (8 : Int32) ≤ v3_4) → wp_X6_hole zz v3_4 v2_2 (fun r_5 => wp_X6_hole zz ((7 : Int32) - v3_4) v2_2 (fun r_6 => ∀ (P49 : Int32 → Prop), (∀ (t_7 : Int32), (∀ w1_8 : Int32, w1_8 = (v1_3 &&& t_7) → wp_X6_hole zz v3_4 ((7 : Int32) - v2_2) (fun r_9 => ∀ (P73 : Int32 → Prop), (∀ (t_10 : Int32), (∀ w1_11 : Int32, w1_11 = (w1_8 &&& t_10) → wp_X6_hole zz ((7 : Int32) - v3_4) ((7 : Int32) - v2_2) (fun r_12 => ∀ (P100 : Int32 → Prop), (∀ (t_13 : Int32), (∀ w1_14 : Int32, w1_14 = (w1_11 &&& t_13) → wp_X6_hole zz v2_2 v3_4 (fun r_15 => ∀ (P121 : Int32 → Prop), (∀ (t_16 : Int32), (∀ w1_17 : Int32, w1_17 = (w1_14 &&& t_16) → P13 w1_17 (v3_4 + (1 : Int32))) → P121 t_16) → ((¬ r_15 = r_5) → P121 (7 : Int32)) ∧ ((r_15 = r_5) → P121 (15 : Int32)))) → P100 t_13) → ((¬ r_12 = r_5) → P100 (11 : Int32)) ∧ ((r_12 = r_5) → P100 (15 : Int32)))) → P73 t_10) → ((¬ r_9 = r_5) → P73 (13 : Int32)) ∧ ((r_9 = r_5) → P73 (15 : Int32)))) → P49 t_7) → ((¬ r_6 = r_5) → P49 (14 : Int32)) ∧ ((r_6 = r_5) → P49 (15 : Int32)))))) → P13 v1_3 v3_4) → P13 v1_1 (0 : Int32))) → P5 v1_1 v2_2) → P5 (15 : Int32) (0 : Int32)
def wp_X6_aim (pastMany : Int32) (zz : Nat → Int32) (past : Nat → Int32) (x1 : Int32) (x2 : Int32) (post : Int32 → Int32 → (Nat → Int32) → (Nat → Int32) → Prop) : Prop :=
  wp_X6_in x1 (0 : Int32) (7 : Int32) (fun r_1 => ((¬ r_1 = 0) → wp_X6_in x2 (0 : Int32) (255 : Int32) (fun r_2 => ((¬ r_2 = 0) → wp_X6_record pastMany zz past (fun pastMany__3 past__4 => vp_in ((199 : Int32) + x1) 207 ∧ (∀ w3_5 : Int32, w3_5 = (zz (((199 : Int32) + x1)).toNatClampNeg) → vp_in ((199 : Int32) + x1) 207 ∧ (post w3_5 pastMany__3 (upd zz (((199 : Int32) + x1)).toNatClampNeg x2) past__4)))) ∧ ((r_2 = 0) → post (-2 : Int32) pastMany zz past))) ∧ ((r_1 = 0) → post (-1 : Int32) pastMany zz past))
def wp_X6_aimHere (pastMany : Int32) (zz : Nat → Int32) (past : Nat → Int32) (pcs : Nat → Int32) (post : Int32 → Int32 → (Nat → Int32) → (Nat → Int32) → (Nat → Int32) → Prop) : Prop :=
  wp_X6_record pastMany zz past (fun pastMany__1 past__2 => ∀ (P6 : Int32 → (Nat → Int32) → Prop), (∀ (v1_3 : Int32) (zz__4 : Nat → Int32), ((((8 : Int32) ≤ v1_3) → wp_X6_count zz__4 pcs (4 : Int32) (fun r_5 pcs__6 => post r_5 pastMany__1 zz__4 past__2 pcs__6)) ∧ ((¬ (8 : Int32) ≤ v1_3) → wp_X6_holes zz__4 v1_3 (fun r_7 => vp_in ((199 : Int32) + v1_3) 207 ∧ (P6 (v1_3 + (1 : Int32)) (upd zz__4 (((199 : Int32) + v1_3)).toNatClampNeg r_7))))) → P6 v1_3 zz__4) → P6 (0 : Int32) zz)
def wp_X6_target (zz : Nat → Int32) (x1 : Int32) (post : Int32 → Prop) : Prop :=
  wp_X6_in x1 (0 : Int32) (7 : Int32) (fun r_1 => ((r_1 = 0) → post (-1 : Int32)) ∧ ((¬ r_1 = 0) → vp_in ((199 : Int32) + x1) 207 ∧ (post (zz (((199 : Int32) + x1)).toNatClampNeg))))
def wp_X6_fieldsWanted (wid : Int32) (hei : Int32) (zz : Nat → Int32) (stk : Nat → Int32) (post : Int32 → Prop) : Prop :=
  wp_X6_layers wid hei (fun r_1 => ∀ (P9 : Int32 → Int32 → Prop), (∀ (v2_2 : Int32) (v3_3 : Int32), ((((wid * hei) ≤ v3_3) → post v2_2) ∧ ((¬ (wid * hei) ≤ v3_3) → ∀ (P28 : Int32 → Int32 → Prop), (∀ (v4_4 : Int32) (v5_5 : Int32), (((r_1 ≤ v5_5) → ∀ (P76 : Prop), ((∀ (P87 : Int32 → Prop), (∀ (t_6 : Int32), (∀ w2_7 : Int32, w2_7 = (v2_2 + t_6) → P9 w2_7 (v3_3 + (1 : Int32))) → P87 t_6) → ((v4_4 ≤ 0) → P87 (0 : Int32)) ∧ ((¬ v4_4 ≤ 0) → P87 (1 : Int32))) → P76 ) → ((v4_4 ≤ 0) → P76) ∧ ((¬ v4_4 ≤ 0) → ((r_1 ≤ v4_4) → P76) ∧ ((¬ r_1 ≤ v4_4) → post (-6 : Int32)))) ∧ ((¬ r_1 ≤ v5_5) → vp_in ((v3_3 * r_1) + v5_5) 64 ∧ (wp_X6_wanted zz ((stk (((v3_3 * r_1) + v5_5)).toNatClampNeg) / (2 : Int32)) (fun r_8 => ∀ w4_9 : Int32, w4_9 = (v4_4 + r_8) → P28 w4_9 (v5_5 + (1 : Int32)))))) → P28 v4_4 v5_5) → P28 (0 : Int32) (0 : Int32))) → P9 v2_2 v3_3) → P9 (0 : Int32) (0 : Int32))
def wp_X6_punches (wid : Int32) (hei : Int32) (zz : Nat → Int32) (stk : Nat → Int32) (laid : Nat → Int32) (post : Int32 → Int32 → Int32 → (Nat → Int32) → (Nat → Int32) → Prop) : Prop :=
  wp_X6_layNow wid hei zz stk laid (fun wid__1 hei__2 stk__3 laid__4 => wp_X6_fieldsWanted wid__1 hei__2 zz stk__3 (fun r_5 => post r_5 wid__1 hei__2 stk__3 laid__4))
def wp_X6_bestFolds (wid : Int32) (hei : Int32) (zz : Nat → Int32) (stk : Nat → Int32) (laid : Nat → Int32) (post : Int32 → Int32 → Int32 → (Nat → Int32) → (Nat → Int32) → Prop) : Prop :=
  ∀ (P7 : Int32 → Int32 → Int32 → Int32 → Int32 → (Nat → Int32) → (Nat → Int32) → Prop), (∀ (v1_1 : Int32) (v2_2 : Int32) (v3_3 : Int32) (wid__4 : Int32) (hei__5 : Int32) (stk__6 : Nat → Int32) (laid__7 : Nat → Int32), ((((6 : Int32) < v3_3) → post v1_1 wid__4 hei__5 stk__6 laid__7) ∧ ((¬ (6 : Int32) < v3_3) → ∀ (P16 : Int32 → Int32 → Int32 → Int32 → Int32 → (Nat → Int32) → (Nat → Int32) → Prop), (∀ (v1_8 : Int32) (v2_9 : Int32) (v4_10 : Int32) (wid__11 : Int32) (hei__12 : Int32) (stk__13 : Nat → Int32) (laid__14 : Nat → Int32), (∀ (P142 : Prop), ((P7 v1_8 v2_9 (v3_3 + (1 : Int32)) wid__11 hei__12 stk__13 laid__14) → P142 ) → (((3 : Int32) < v4_10) → P142) ∧ ((¬ (3 : Int32) < v4_10) → ((v3_3 < v4_10) → P142) ∧ ((¬ v3_3 < v4_10) → ∀ (P136 : Int32 → Int32 → Int32 → Int32 → (Nat → Int32) → (Nat → Int32) → Prop), (∀ (v1_15 : Int32) (v2_16 : Int32) (wid__17 : Int32) (hei__18 : Int32) (stk__19 : Nat → Int32) (laid__20 : Nat → Int32), (P16 v1_15 v2_16 (v4_10 + (1 : Int32)) wid__17 hei__18 stk__19 laid__20) → P136 v1_15 v2_16 wid__17 hei__18 stk__19 laid__20) → (((3 : Int32) < (v3_3 - v4_10)) → P136 v1_8 v2_9 wid__11 hei__12 stk__13 laid__14) ∧ ((¬ (3 : Int32) < (v3_3 - v4_10)) → wp_X6_lay wid__11 hei__12 zz stk__13 laid__14 (0 : Int32) (fun wid__21 hei__22 stk__23 laid__24 => ∀ (P44 : Int32 → Int32 → Int32 → (Nat → Int32) → (Nat → Int32) → Prop), (∀ (v5_25 : Int32) (wid__26 : Int32) (hei__27 : Int32) (stk__28 : Nat → Int32) (laid__29 : Nat → Int32), (((v3_3 ≤ v5_25) → wp_X6_fieldsWanted wid__26 hei__27 zz stk__28 (fun r_30 => ∀ (P102 : Int32 → Prop), (∀ (t_31 : Int32), (∀ (P123 : Int32 → Prop), (∀ (t_32 : Int32), (∀ (P135 : Int32 → Prop), (∀ (t_33 : Int32), (P136 t_32 t_33 wid__26 hei__27 stk__28 laid__29) → P135 t_33) → ((t_31 = 0) → P135 v2_9) ∧ ((¬ t_31 = 0) → P135 r_30)) → P123 t_32) → ((t_31 = 0) → P123 v1_8) ∧ ((¬ t_31 = 0) → P123 ((((10 : Int32) * v4_10) + v3_3) - v4_10))) → P102 t_31) → ∀ (P101 : Prop), ((P102 (0 : Int32)) → P101 ) → ((r_30 = (-6 : Int32)) → P101) ∧ ((¬ r_30 = (-6 : Int32)) → ∀ (P97 : Prop), ((P102 (1 : Int32)) → P97 ) → ((v1_8 = (-6 : Int32)) → P97) ∧ ((¬ v1_8 = (-6 : Int32)) → ((v2_9 ≤ r_30) → P101) ∧ ((¬ v2_9 ≤ r_30) → P97))))) ∧ ((¬ v3_3 ≤ v5_25) → ∀ (P63 : Int32 → Prop), (∀ (t_34 : Int32), (wp_X6_layFold wid__26 hei__27 stk__28 laid__29 t_34 (fun wid__35 hei__36 stk__37 laid__38 => P44 (v5_25 + (1 : Int32)) wid__35 hei__36 stk__37 laid__38)) → P63 t_34) → ((v4_10 ≤ v5_25) → P63 (2 : Int32)) ∧ ((¬ v4_10 ≤ v5_25) → P63 (0 : Int32)))) → P44 v5_25 wid__26 hei__27 stk__28 laid__29) → P44 (0 : Int32) wid__21 hei__22 stk__23 laid__24))))) → P16 v1_8 v2_9 v4_10 wid__11 hei__12 stk__13 laid__14) → P16 v1_1 v2_2 (0 : Int32) wid__4 hei__5 stk__6 laid__7)) → P7 v1_1 v2_2 v3_3 wid__4 hei__5 stk__6 laid__7) → P7 (-6 : Int32) (0 : Int32) (0 : Int32) wid hei stk laid
def wp_X6_ifPunched (wid : Int32) (hei : Int32) (zz : Nat → Int32) (stk : Nat → Int32) (laid : Nat → Int32) (pcs : Nat → Int32) (x1 : Int32) (x2 : Int32) (post : Int32 → Int32 → Int32 → (Nat → Int32) → (Nat → Int32) → (Nat → Int32) → (Nat → Int32) → Prop) : Prop :=
  wp_X6_top wid hei zz stk laid x1 x2 (fun r_1 wid__2 hei__3 stk__4 laid__5 => ((¬ r_1 = (-6 : Int32)) → ∀ (P18 : Int32 → (Nat → Int32) → Prop), (∀ (v4_6 : Int32) (zz__7 : Nat → Int32), (wp_X6_layers wid__2 hei__3 (fun r_8 => ((r_8 ≤ v4_6) → wp_X6_pieceMany zz__7 pcs (fun r_9 pcs__10 => ∀ (P65 : Int32 → (Nat → Int32) → Prop), (∀ (v5_11 : Int32) (zz__12 : Nat → Int32), (wp_X6_layers wid__2 hei__3 (fun r_13 => ((r_13 ≤ v5_11) → post r_9 wid__2 hei__3 zz__12 stk__4 laid__5 pcs__10) ∧ ((¬ r_13 ≤ v5_11) → vp_in (r_1 + v5_11) 64 ∧ (vp_in ((7 : Int32) + ((stk__4 ((r_1 + v5_11)).toNatClampNeg) / (2 : Int32))) 207 ∧ (vp_in ((7 : Int32) + ((stk__4 ((r_1 + v5_11)).toNatClampNeg) / (2 : Int32))) 207 ∧ (P65 (v5_11 + (1 : Int32)) (upd zz__12 (((7 : Int32) + ((stk__4 ((r_1 + v5_11)).toNatClampNeg) / (2 : Int32)))).toNatClampNeg ((zz__12 (((7 : Int32) + ((stk__4 ((r_1 + v5_11)).toNatClampNeg) / (2 : Int32)))).toNatClampNeg) - (2 : Int32))))))))) → P65 v5_11 zz__12) → P65 (0 : Int32) zz__7)) ∧ ((¬ r_8 ≤ v4_6) → vp_in (r_1 + v4_6) 64 ∧ (vp_in ((7 : Int32) + ((stk__4 ((r_1 + v4_6)).toNatClampNeg) / (2 : Int32))) 207 ∧ (vp_in ((7 : Int32) + ((stk__4 ((r_1 + v4_6)).toNatClampNeg) / (2 : Int32))) 207 ∧ (P18 (v4_6 + (1 : Int32)) (upd zz__7 (((7 : Int32) + ((stk__4 ((r_1 + v4_6)).toNatClampNeg) / (2 : Int32)))).toNatClampNeg ((zz__7 (((7 : Int32) + ((stk__4 ((r_1 + v4_6)).toNatClampNeg) / (2 : Int32)))).toNatClampNeg) + (2 : Int32))))))))) → P18 v4_6 zz__7) → P18 (0 : Int32) zz) ∧ ((r_1 = (-6 : Int32)) → post (-1 : Int32) wid__2 hei__3 zz stk__4 laid__5 pcs))
def wp_X6_append (typed : Int32) (buf : Nat → Int32) (x1 : Int32) (post : Int32 → Int32 → (Nat → Int32) → Prop) : Prop :=
  wp_X6_in x1 (33 : Int32) (126 : Int32) (fun r_1 => ((¬ r_1 = 0) → ((¬ typed = (60 : Int32)) → vp_in typed 60 ∧ (post (typed + (1 : Int32)) (typed + (1 : Int32)) (upd buf (typed).toNatClampNeg (vp_nar .char (((x1).toUInt32 % 65536).toInt32))))) ∧ ((typed = (60 : Int32)) → post (-4 : Int32) typed buf)) ∧ ((r_1 = 0) → post (-2 : Int32) typed buf))
def wp_X6_clearText (typed : Int32) (post : Int32 → Int32 → Prop) : Prop :=
  post typed (0 : Int32)
def wp_X6_letter (typed : Int32) (spot : Int32) (buf : Nat → Int32) (post : Int32 → Prop) : Prop :=
  ((typed ≤ spot) → post (-6 : Int32)) ∧ ((¬ typed ≤ spot) → vp_in spot 60 ∧ (post (buf (spot).toNatClampNeg)))
def wp_X6_wants (spot : Int32) (wrong : Int32) (x1 : Int32) (post : Int32 → Int32 → Prop) : Prop :=
  ((¬ wrong = (-6 : Int32)) → post spot wrong) ∧ ((wrong = (-6 : Int32)) → ∀ (P23 : Int32 → Prop), (∀ (t_1 : Int32), (post (spot + (1 : Int32)) t_1) → P23 t_1) → ((x1 = 0) → P23 spot) ∧ ((¬ x1 = 0) → P23 (-6 : Int32)))
def wp_X6_figure (typed : Int32) (spot : Int32) (wrong : Int32) (buf : Nat → Int32) (x1 : Int32) (x2 : Int32) (post : Int32 → Int32 → Int32 → Prop) : Prop :=
  wp_X6_letter typed spot buf (fun r_1 => ∀ w3_2 : Int32, w3_2 = (r_1 - (48 : Int32)) → wp_X6_in w3_2 x1 x2 (fun r_3 => wp_X6_wants spot wrong r_3 (fun spot__4 wrong__5 => post w3_2 spot__4 wrong__5)))
def wp_X6_depth (typed : Int32) (spot : Int32) (wrong : Int32) (buf : Nat → Int32) (post : Int32 → Int32 → Int32 → Prop) : Prop :=
  wp_X6_figure typed spot wrong buf (1 : Int32) (9 : Int32) (fun r_1 spot__2 wrong__3 => wp_X6_letter typed spot__2 buf (fun r_4 => ∀ w2_5 : Int32, w2_5 = (r_4 - (48 : Int32)) → ∀ (P63 : Prop), ((post r_1 spot__2 wrong__3) → P63 ) → ((¬ wrong__3 = (-6 : Int32)) → P63) ∧ ((wrong__3 = (-6 : Int32)) → wp_X6_in w2_5 (0 : Int32) (9 : Int32) (fun r_6 => ((r_6 = 0) → P63) ∧ ((¬ r_6 = 0) → (((64 : Int32) < (((10 : Int32) * r_1) + w2_5)) → P63) ∧ ((¬ (64 : Int32) < (((10 : Int32) * r_1) + w2_5)) → post (((10 : Int32) * r_1) + w2_5) (spot__2 + (1 : Int32)) wrong__3))))))
def wp_X6_foldBy (x0 : Int32) (post : Int32 → Prop) : Prop :=
  ((¬ x0 = (76 : Int32)) → ((¬ x0 = (82 : Int32)) → ((¬ x0 = (84 : Int32)) → ((¬ x0 = (66 : Int32)) → post (-6 : Int32)) ∧ ((x0 = (66 : Int32)) → post (3 : Int32))) ∧ ((x0 = (84 : Int32)) → post (2 : Int32))) ∧ ((x0 = (82 : Int32)) → post (1 : Int32))) ∧ ((x0 = (76 : Int32)) → post (0 : Int32))
def wp_X6_readWork (typed : Int32) (toldMany : Int32) (spot : Int32) (wrong : Int32) (buf : Nat → Int32) (told : Nat → Int32) (post : Int32 → Int32 → Int32 → (Nat → Int32) → Prop) : Prop :=
  wp_X6_letter typed spot buf (fun r_1 => wp_X6_foldBy r_1 (fun r_2 => ∀ (P38 : Int32 → Prop), (∀ (t_3 : Int32), (wp_X6_wants spot wrong t_3 (fun spot__4 wrong__5 => ∀ w2_6 : Int32, w2_6 = ((4 : Int32) * toldMany) → vp_in w2_6 240 ∧ (vp_in (w2_6 + (3 : Int32)) 240 ∧ (∀ (P106 : Int32 → Int32 → (Nat → Int32) → Prop), (∀ (spot__7 : Int32) (wrong__8 : Int32) (told__9 : Nat → Int32), (∀ (P126 : Int32 → Int32 → (Nat → Int32) → Prop), (∀ (spot__10 : Int32) (wrong__11 : Int32) (told__12 : Nat → Int32), (∀ (P172 : Int32 → Int32 → (Nat → Int32) → Prop), (∀ (spot__13 : Int32) (wrong__14 : Int32) (told__15 : Nat → Int32), (post (toldMany + (1 : Int32)) spot__13 wrong__14 told__15) → P172 spot__13 wrong__14 told__15) → ((¬ r_1 = (80 : Int32)) → P172 spot__10 wrong__11 told__12) ∧ ((r_1 = (80 : Int32)) → ((¬ wrong__11 = (-6 : Int32)) → P172 spot__10 wrong__11 told__12) ∧ ((wrong__11 = (-6 : Int32)) → wp_X6_letter typed spot__10 buf (fun r_16 => ((¬ r_16 = (58 : Int32)) → P172 spot__10 wrong__11 told__12) ∧ ((r_16 = (58 : Int32)) → wp_X6_depth typed (spot__10 + (1 : Int32)) wrong__11 buf (fun r_17 spot__18 wrong__19 => vp_in (w2_6 + (3 : Int32)) 240 ∧ (P172 spot__18 wrong__19 (upd told__12 ((w2_6 + (3 : Int32))).toNatClampNeg r_17)))))))) → P126 spot__10 wrong__11 told__12) → ((¬ r_1 = (73 : Int32)) → P126 spot__7 wrong__8 told__9) ∧ ((r_1 = (73 : Int32)) → wp_X6_figure typed spot__7 wrong__8 buf (1 : Int32) (5 : Int32) (fun r_20 spot__21 wrong__22 => vp_in (w2_6 + (3 : Int32)) 240 ∧ (P126 spot__21 wrong__22 (upd told__9 ((w2_6 + (3 : Int32))).toNatClampNeg r_20))))) → P106 spot__7 wrong__8 told__9) → ∀ (P76 : Prop), ((wp_X6_figure typed spot__4 wrong__5 buf (0 : Int32) (7 : Int32) (fun r_23 spot__24 wrong__25 => vp_in (w2_6 + (1 : Int32)) 240 ∧ (wp_X6_figure typed spot__24 wrong__25 buf (0 : Int32) (7 : Int32) (fun r_26 spot__27 wrong__28 => vp_in (w2_6 + (2 : Int32)) 240 ∧ (P106 spot__27 wrong__28 (upd (upd (upd (upd told (w2_6).toNatClampNeg r_1) ((w2_6 + (3 : Int32))).toNatClampNeg (0 : Int32)) ((w2_6 + (1 : Int32))).toNatClampNeg r_23) ((w2_6 + (2 : Int32))).toNatClampNeg r_26)))))) → P76 ) → ((r_1 = (80 : Int32)) → P76) ∧ ((¬ r_1 = (80 : Int32)) → ((¬ r_1 = (73 : Int32)) → P106 spot__4 wrong__5 (upd (upd told (w2_6).toNatClampNeg r_1) ((w2_6 + (3 : Int32))).toNatClampNeg (0 : Int32))) ∧ ((r_1 = (73 : Int32)) → P76)))))) → P38 t_3) → ∀ (P33 : Prop), ((P38 (1 : Int32)) → P33 ) → ((¬ r_2 = (-6 : Int32)) → P33) ∧ ((r_2 = (-6 : Int32)) → ((r_1 = (85 : Int32)) → P33) ∧ ((¬ r_1 = (85 : Int32)) → ((r_1 = (80 : Int32)) → P33) ∧ ((¬ r_1 = (80 : Int32)) → ((¬ r_1 = (73 : Int32)) → P38 (0 : Int32)) ∧ ((r_1 = (73 : Int32)) → P33))))))
def wp_X6_errorPosition (typed : Int32) (toldMany : Int32) (spot : Int32) (wrong : Int32) (buf : Nat → Int32) (told : Nat → Int32) (post : Int32 → Int32 → Int32 → Int32 → (Nat → Int32) → Prop) : Prop :=
  wp_X6_readWork typed (0 : Int32) (0 : Int32) (-6 : Int32) buf told (fun toldMany__1 spot__2 wrong__3 told__4 => ∀ (P20 : Int32 → Int32 → Int32 → (Nat → Int32) → Prop), (∀ (toldMany__5 : Int32) (spot__6 : Int32) (wrong__7 : Int32) (told__8 : Nat → Int32), (∀ (P47 : Prop), ((post wrong__7 toldMany__5 spot__6 wrong__7 told__8) → P47 ) → ((¬ wrong__7 = (-6 : Int32)) → P47) ∧ ((wrong__7 = (-6 : Int32)) → ((typed ≤ spot__6) → P47) ∧ ((¬ typed ≤ spot__6) → wp_X6_readWork typed toldMany__5 spot__6 wrong__7 buf told__8 (fun toldMany__9 spot__10 wrong__11 told__12 => P20 toldMany__9 spot__10 wrong__11 told__12)))) → P20 toldMany__5 spot__6 wrong__7 told__8) → P20 toldMany__1 spot__2 wrong__3 told__4)
def wp_X6_doOne (wid : Int32) (hei : Int32) (zz : Nat → Int32) (stk : Nat → Int32) (laid : Nat → Int32) (told : Nat → Int32) (x1 : Int32) (post : Int32 → Int32 → Int32 → (Nat → Int32) → (Nat → Int32) → (Nat → Int32) → Prop) : Prop :=
  vp_in (x1 + (1 : Int32)) 240 ∧ (∀ w2_1 : Int32, w2_1 = (told ((x1 + (1 : Int32))).toNatClampNeg) → vp_in (x1 + (2 : Int32)) 240 ∧ (∀ w3_2 : Int32, w3_2 = (told ((x1 + (2 : Int32))).toNatClampNeg) → vp_in (x1 + (3 : Int32)) 240 ∧ (∀ w4_3 : Int32, w4_3 = (told ((x1 + (3 : Int32))).toNatClampNeg) → vp_in x1 240 ∧ (∀ w5_4 : Int32, w5_4 = (told (x1).toNatClampNeg) → ∀ (P190 : Int32 → Int32 → Int32 → (Nat → Int32) → (Nat → Int32) → (Nat → Int32) → Prop), (∀ (v6_5 : Int32) (wid__6 : Int32) (hei__7 : Int32) (zz__8 : Nat → Int32) (stk__9 : Nat → Int32) (laid__10 : Nat → Int32), (post v6_5 wid__6 hei__7 zz__8 stk__9 laid__10) → P190 v6_5 wid__6 hei__7 zz__8 stk__9 laid__10) → ((¬ w5_4 = (85 : Int32)) → ((¬ w5_4 = (80 : Int32)) → ((¬ w5_4 = (73 : Int32)) → wp_X6_foldBy w5_4 (fun r_11 => wp_X6_whyNotFold wid hei zz stk laid r_11 (fun r_12 wid__13 hei__14 stk__15 laid__16 => ((¬ r_12 = 0) → P190 r_12 wid__13 hei__14 zz stk__15 laid__16) ∧ ((r_12 = 0) → wp_X6_foldBy w5_4 (fun r_17 => wp_X6_folds wid__13 hei__14 zz stk__15 laid__16 r_17 (fun r_18 wid__19 hei__20 zz__21 stk__22 laid__23 => P190 r_12 wid__19 hei__20 zz__21 stk__22 laid__23)))))) ∧ ((w5_4 = (73 : Int32)) → wp_X6_whyNotInk wid hei zz stk laid w2_1 w3_2 w4_3 (fun r_24 wid__25 hei__26 stk__27 laid__28 => ((¬ r_24 = 0) → P190 r_24 wid__25 hei__26 zz stk__27 laid__28) ∧ ((r_24 = 0) → wp_X6_inks wid__25 hei__26 zz stk__27 laid__28 w2_1 w3_2 w4_3 (fun r_29 wid__30 hei__31 zz__32 stk__33 laid__34 => P190 r_24 wid__30 hei__31 zz__32 stk__33 laid__34))))) ∧ ((w5_4 = (80 : Int32)) → wp_X6_layNow wid hei zz stk laid (fun wid__35 hei__36 stk__37 laid__38 => ∀ (P101 : Int32 → Prop), (∀ (t_39 : Int32), (wp_X6_whyNotPunch wid__35 hei__36 zz stk__37 laid__38 w2_1 w3_2 t_39 (fun r_40 wid__41 hei__42 stk__43 laid__44 => ∀ (P127 : Int32 → Int32 → (Nat → Int32) → (Nat → Int32) → (Nat → Int32) → Prop), (∀ (wid__45 : Int32) (hei__46 : Int32) (zz__47 : Nat → Int32) (stk__48 : Nat → Int32) (laid__49 : Nat → Int32), (P190 r_40 wid__45 hei__46 zz__47 stk__48 laid__49) → P127 wid__45 hei__46 zz__47 stk__48 laid__49) → ((¬ r_40 = 0) → P127 wid__41 hei__42 zz stk__43 laid__44) ∧ ((r_40 = 0) → wp_X6_makesHoles wid__41 hei__42 zz stk__43 laid__44 w2_1 w3_2 t_39 (fun r_50 wid__51 hei__52 zz__53 stk__54 laid__55 => P127 wid__51 hei__52 zz__53 stk__54 laid__55)))) → P101 t_39) → ((¬ w4_3 = 0) → P101 w4_3) ∧ ((w4_3 = 0) → wp_X6_layers wid__35 hei__36 (fun r_56 => P101 r_56))))) ∧ ((w5_4 = (85 : Int32)) → vp_in (0 : Int32) 207 ∧ (∀ (P61 : Int32 → Prop), (∀ (t_57 : Int32), (((¬ t_57 = 0) → P190 t_57 wid hei zz stk laid) ∧ ((t_57 = 0) → wp_X6_unfolds zz (fun r_58 zz__59 => P190 t_57 wid hei zz__59 stk laid))) → P61 t_57) → ((¬ (zz ((0 : Int32)).toNatClampNeg) = 0) → P61 (0 : Int32)) ∧ (((zz ((0 : Int32)).toNatClampNeg) = 0) → P61 (-3 : Int32))))))))
def wp_X6_work (pastMany : Int32) (typed : Int32) (wid : Int32) (hei : Int32) (toldMany : Int32) (spot : Int32) (wrong : Int32) (zz : Nat → Int32) (past : Nat → Int32) (buf : Nat → Int32) (stk : Nat → Int32) (laid : Nat → Int32) (told : Nat → Int32) (post : Int32 → Int32 → Int32 → Int32 → Int32 → Int32 → Int32 → Int32 → (Nat → Int32) → (Nat → Int32) → (Nat → Int32) → (Nat → Int32) → (Nat → Int32) → Prop) : Prop :=
  wp_X6_errorPosition typed toldMany spot wrong buf told (fun r_1 toldMany__2 spot__3 wrong__4 told__5 => ((r_1 = (-6 : Int32)) → wp_X6_record pastMany zz past (fun pastMany__6 past__7 => ∀ (P18 : Int32 → Int32 → Int32 → (Nat → Int32) → (Nat → Int32) → (Nat → Int32) → Prop), (∀ (v1_8 : Int32) (wid__9 : Int32) (hei__10 : Int32) (zz__11 : Nat → Int32) (stk__12 : Nat → Int32) (laid__13 : Nat → Int32), (∀ (P42 : Int32 → Int32 → (Nat → Int32) → (Nat → Int32) → (Nat → Int32) → Prop), (∀ (wid__14 : Int32) (hei__15 : Int32) (zz__16 : Nat → Int32) (stk__17 : Nat → Int32) (laid__18 : Nat → Int32), (post v1_8 pastMany__6 (0 : Int32) wid__14 hei__15 toldMany__2 spot__3 wrong__4 zz__16 past__7 stk__17 laid__18 told__5) → P42 wid__14 hei__15 zz__16 stk__17 laid__18) → ((toldMany__2 ≤ v1_8) → P42 wid__9 hei__10 zz__11 stk__12 laid__13) ∧ ((¬ toldMany__2 ≤ v1_8) → wp_X6_doOne wid__9 hei__10 zz__11 stk__12 laid__13 told__5 ((4 : Int32) * v1_8) (fun r_19 wid__20 hei__21 zz__22 stk__23 laid__24 => ((¬ r_19 = 0) → P42 wid__20 hei__21 zz__22 stk__23 laid__24) ∧ ((r_19 = 0) → P18 (v1_8 + (1 : Int32)) wid__20 hei__21 zz__22 stk__23 laid__24)))) → P18 v1_8 wid__9 hei__10 zz__11 stk__12 laid__13) → P18 (0 : Int32) wid hei zz stk laid)) ∧ ((¬ r_1 = (-6 : Int32)) → post (-5 : Int32) pastMany typed wid hei toldMany__2 spot__3 wrong__4 zz past stk laid told__5))
set_option maxHeartbeats 4000000 in
set_option maxRecDepth 100000 in
theorem c_X6_symmetries (l : Launch) (dC : Nat → ClassId) (dI : Nat → Nat → Nat) (cI cC cS : ClassId) (aM : Nat) (aZ : Nat) (aPast : Nat) (aKz : Nat) (aBuf : Nat) (aStk : Nat) (aLaid : Nat) (aPcs : Nat) (aTold : Nat) (sz : Nat) (pastMany : Int32) (isKept : Int32) (typed : Int32) (wid : Int32) (hei : Int32) (toldMany : Int32) (spot : Int32) (wrong : Int32) (zz : Nat → Int32) {post : Int32 → Prop} (hq : wp_X6_symmetries zz post) : Met l yX6_symmetries wsX6_symmetries ({ frames := 1, cells := 0, slots := 0, locals := 22 } : Room) (gn_Pre (dC, dI) cI cC cS [.ref aM] sz [(aM, .inr (5, [.ref aZ, .ref aPast, .int pastMany, .ref aKz, .int isKept, .ref aBuf, .int typed, .ref aStk, .ref aLaid, .int wid, .int hei, .ref aPcs, .ref aTold, .int toldMany, .int spot, .int wrong])), (aZ, .inl (cI, 207, .inl zz))]) (va_Qi (fun (r : Int32) (u : Unit) => post r) (fun (u : Unit) t => va_P (dC, dI) vwCl [(aM, .inr (5, [.ref aZ, .ref aPast, .int pastMany, .ref aKz, .int isKept, .ref aBuf, .int typed, .ref aStk, .ref aLaid, .int wid, .int hei, .ref aPcs, .ref aTold, .int toldMany, .int spot, .int wrong])), (aZ, .inl (cI, 207, .inl zz))] t.heap ∧ va_K (dC, dI) vwCl (gn_tys cI cC cS) t ∧ va_D (va_A [(aM, .inr (5, [.ref aZ, .ref aPast, .int pastMany, .ref aKz, .int isKept, .ref aBuf, .int typed, .ref aStk, .ref aLaid, .int wid, .int hei, .ref aPcs, .ref aTold, .int toldMany, .int spot, .int wrong])), (aZ, .inl (cI, 207, .inl zz))] sz) [(aM, .inr (5, [.ref aZ, .ref aPast, .int pastMany, .ref aKz, .int isKept, .ref aBuf, .int typed, .ref aStk, .ref aLaid, .int wid, .int hei, .ref aPcs, .ref aTold, .int toldMany, .int spot, .int wrong])), (aZ, .inl (cI, 207, .inl zz))]) (va_A [(aM, .inr (5, [.ref aZ, .ref aPast, .int pastMany, .ref aKz, .int isKept, .ref aBuf, .int typed, .ref aStk, .ref aLaid, .int wid, .int hei, .ref aPcs, .ref aTold, .int toldMany, .int spot, .int wrong])), (aZ, .inl (cI, 207, .inl zz))] sz)) 0 0 (va_A [(aM, .inr (5, [.ref aZ, .ref aPast, .int pastMany, .ref aKz, .int isKept, .ref aBuf, .int typed, .ref aStk, .ref aLaid, .int wid, .int hei, .ref aPcs, .ref aTold, .int toldMany, .int spot, .int wrong])), (aZ, .inl (cI, 207, .inl zz))] sz) := by
  unfold wp_X6_symmetries at hq
  refine Met.ofW (cc := cX6_symmetries) (maxL := 5) (ret := (some .int)) (by decide) rfl ?_
  intro p e s m args below meth c s₁ B hml hv
  obtain ⟨rfl, hsz, hP, hK, hN, hD0⟩ := hv
  have hx := B.exec
  have hb := B.bytes
  have hr := B.returns
  have hts := atoms_spec (ws := wsX6_symmetries) B.pre
  have hown : s.vm.findClass RX6 = some m.cls := findClass_of_methodNamed B.named
  have hlocks := B.notSynchronized
  subst hsz
  have hD := hD0.self (sz := s.heap.size)
  generalize hAe : va_A [(aM, .inr (5, [.ref aZ, .ref aPast, .int pastMany, .ref aKz, .int isKept, .ref aBuf, .int typed, .ref aStk, .ref aLaid, .int wid, .int hei, .ref aPcs, .ref aTold, .int toldMany, .int spot, .int wrong])), (aZ, .inl (cI, 207, .inl zz))] s.heap.size = A at hD ⊢
  have hA : ∀ q : Nat, s.heap.size ≤ q → A q := fun q h => by rw [← hAe]; exact Or.inr h
  have hS : va_S A s.heap s.heap [] := va_S.rf
  have hl := lv_entry ([.ref aM] : List Value) (n := 5) (Nat.le_of_ble_eq_true rfl)
  rw [lg_entry_eq]
  generalize (lg_sl ([.ref aM] : List Value) ++ List.replicate (5 - (lg_sl ([.ref aM] : List Value)).length) Slot.unset).toArray = ls at hl ⊢
  have hl : lv_has ls 5 [(0, .ref aM)] := hl
  refine gn_Q (hret := fun Q => ∀ (pc : Nat) (ls : Array Slot) (H : Heap) (locs : List Loc) (r : Int32) , decode cX6_symmetries pc = .ok (.ireturn, 1) → va_P (dC, dI) vwCl [(aM, .inr (5, [.ref aZ, .ref aPast, .int pastMany, .ref aKz, .int isKept, .ref aBuf, .int typed, .ref aStk, .ref aLaid, .int wid, .int hei, .ref aPcs, .ref aTold, .int toldMany, .int spot, .int wrong])), (aZ, .inl (cI, 207, .inl zz))] H → va_D A [(aM, .inr (5, [.ref aZ, .ref aPast, .int pastMany, .ref aKz, .int isKept, .ref aBuf, .int typed, .ref aStk, .ref aLaid, .int wid, .int hei, .ref aPcs, .ref aTold, .int toldMany, .int spot, .int wrong])), (aZ, .inl (cI, 207, .inl zz))] → va_S A s.heap H locs → post r → W p l e ({ frames := 1, cells := 0, slots := 0, locals := 22 } : Room) s m ([.ref aM] : List Value).toArray below meth c H locs 0 0 Q (F0 m pc ls [.int r])) (fun Q hret => ?_) ?_
  rotate_left
  · intro pc ls H locs r hdg hP hD hS hpost
    exact W.iret (v := r) hx hb hr (fun t ht hW => ⟨⟨r, (), rfl, hpost, by rw [ht]; exact hP, va_K.moved hW.alike hK, hD⟩, hS.F ht⟩) hS.2.2 hdg
  refine lv_bipush (v := 15) hx hb dX6_symmetries_0 (by decide) ?_
  refine lv_istore_n (lv' := [(1, .int (15 : Int32)), (0, .ref aM)]) hx hb dX6_symmetries_2 rfl hl (by decide) rfl (fun ls hl => ?_)
  refine lv_iconst (v := 0) hx hb dX6_symmetries_3 (by decide) ?_
  refine lv_istore_n (lv' := [(2, .int (0 : Int32)), (1, .int (15 : Int32)), (0, .ref aM)]) hx hb dX6_symmetries_4 rfl hl (by decide) rfl (fun ls hl => ?_)
  have hq := hq (fun (v1_1 : Int32) (v2_2 : Int32) => ∀ (H : Heap) (locs : List Loc) (ls : Array Slot), va_P (dC, dI) vwCl [(aM, .inr (5, [.ref aZ, .ref aPast, .int pastMany, .ref aKz, .int isKept, .ref aBuf, .int typed, .ref aStk, .ref aLaid, .int wid, .int hei, .ref aPcs, .ref aTold, .int toldMany, .int spot, .int wrong])), (aZ, .inl (cI, 207, .inl zz))] H → va_D A [(aM, .inr (5, [.ref aZ, .ref aPast, .int pastMany, .ref aKz, .int isKept, .ref aBuf, .int typed, .ref aStk, .ref aLaid, .int wid, .int hei, .ref aPcs, .ref aTold, .int toldMany, .int spot, .int wrong])), (aZ, .inl (cI, 207, .inl zz))] → va_S A s.heap H locs → lv_has ls 5 [(0, .ref aM), (1, .int v1_1), (2, .int v2_2)] → W p l e ({ frames := 1, cells := 0, slots := 0, locals := 22 } : Room) s m ([.ref aM] : List Value).toArray below meth c H locs 0 0 Q (F0 m 5 ls [])) (by
    intro v1_1 v2_2 hq H locs ls hP hD hS hl
    refine lv_iload_n hx hb dX6_symmetries_5 rfl (lv_at hl 2 rfl) ?_
    refine lv_bipush (v := 8) hx hb dX6_symmetries_6 (by decide) ?_
    refine lv_icmp_ge (tgt := 135) hx hb dX6_symmetries_8 (by decide) (fun hc => ?_) (fun hc => ?_)
    · have hq := hq.1 hc
      refine lv_iload_n hx hb dX6_symmetries_135 rfl (lv_at hl 1 rfl) ?_
      exact hret _ _ _ _ _ dX6_symmetries_136 hP hD hS hq
    · have hq := hq.2 hc
      refine lv_iconst (v := 0) hx hb dX6_symmetries_11 (by decide) ?_
      refine lv_istore_n (lv' := [(3, .int (0 : Int32)), (0, .ref aM), (1, .int v1_1), (2, .int v2_2)]) hx hb dX6_symmetries_12 rfl hl (by decide) rfl (fun ls hl => ?_)
      have hq := hq (fun (v1_3 : Int32) (v3_4 : Int32) => ∀ (H : Heap) (locs : List Loc) (ls : Array Slot), va_P (dC, dI) vwCl [(aM, .inr (5, [.ref aZ, .ref aPast, .int pastMany, .ref aKz, .int isKept, .ref aBuf, .int typed, .ref aStk, .ref aLaid, .int wid, .int hei, .ref aPcs, .ref aTold, .int toldMany, .int spot, .int wrong])), (aZ, .inl (cI, 207, .inl zz))] H → va_D A [(aM, .inr (5, [.ref aZ, .ref aPast, .int pastMany, .ref aKz, .int isKept, .ref aBuf, .int typed, .ref aStk, .ref aLaid, .int wid, .int hei, .ref aPcs, .ref aTold, .int toldMany, .int spot, .int wrong])), (aZ, .inl (cI, 207, .inl zz))] → va_S A s.heap H locs → lv_has ls 5 [(0, .ref aM), (1, .int v1_3), (2, .int v2_2), (3, .int v3_4)] → W p l e ({ frames := 1, cells := 0, slots := 0, locals := 22 } : Room) s m ([.ref aM] : List Value).toArray below meth c H locs 0 0 Q (F0 m 13 ls [])) (by
        intro v1_3 v3_4 hq H locs ls hP hD hS hl
        refine lv_iload_n hx hb dX6_symmetries_13 rfl (lv_at hl 3 rfl) ?_
        refine lv_bipush (v := 8) hx hb dX6_symmetries_14 (by decide) ?_
        refine lv_icmp_ge (tgt := 129) hx hb dX6_symmetries_16 (by decide) (fun hc => ?_) (fun hc => ?_)
        · have hq := hq.1 hc
          refine lv_iinc (v := (v2_2 + (1 : Int32))) (lv' := [(2, .int (v2_2 + (1 : Int32))), (0, .ref aM), (1, .int v1_3), (3, .int v3_4)]) hx hb dX6_symmetries_129 hl (k := 2) rfl rfl (by decide) rfl (fun ls hl => ?_)
          refine lv_goto (tgt := 5) hx hb dX6_symmetries_132 (by decide) ?_
          exact hq _ _ _ hP hD hS (lv_sub hl [1, 2, 0] rfl)
        · have hq := hq.2 hc
          refine lv_aload_n hx hb dX6_symmetries_19 rfl (lv_at hl 0 rfl) ?_
          refine lv_iload_n hx hb dX6_symmetries_20 rfl (lv_at hl 3 rfl) ?_
          refine lv_iload_n hx hb dX6_symmetries_21 rfl (lv_at hl 2 rfl) ?_
          have hPc := hP.sub (ws' := [(aM, .inr (5, [.ref aZ, .ref aPast, .int pastMany, .ref aKz, .int isKept, .ref aBuf, .int typed, .ref aStk, .ref aLaid, .int wid, .int hei, .ref aPcs, .ref aTold, .int toldMany, .int spot, .int wrong])), (aZ, .inl (cI, 207, .inl zz))]) [0, 1] rfl
          have hDc := hD.sub (ws' := [(aM, .inr (5, [.ref aZ, .ref aPast, .int pastMany, .ref aKz, .int isKept, .ref aBuf, .int typed, .ref aStk, .ref aLaid, .int wid, .int hei, .ref aPcs, .ref aTold, .int toldMany, .int spot, .int wrong])), (aZ, .inl (cI, 207, .inl zz))]) [0, 1] (by decide) rfl
          have hFc := va_free (wc := [(aM, .inr (5, [.ref aZ, .ref aPast, .int pastMany, .ref aKz, .int isKept, .ref aBuf, .int typed, .ref aStk, .ref aLaid, .int wid, .int hei, .ref aPcs, .ref aTold, .int toldMany, .int spot, .int wrong])), (aZ, .inl (cI, 207, .inl zz))]) hD hS hA [0, 1] rfl
          refine va_calli (va_runV (As := [.int v3_4, .int v2_2]) (rest := []) ⟨hx, hb, hml, hown, hts⟩ (c_X6_hole l dC dI cI cC cS aM aZ aPast aKz aBuf aStk aLaid aPcs aTold _ pastMany isKept typed wid hei toldMany spot wrong zz v3_4 v2_2 hq) (cwV 2 hts gX6_symmetries_X6_hole rfl rfl rfl (by decide +kernel) ⟨Nat.le_of_ble_eq_true rfl, Nat.le_of_ble_eq_true rfl⟩) (gn_preV hPc hK hN hDc (ci := 5) (q0 := 0) rfl rfl) rfl rfl hl.1 rfl (lv_room (Nat.le_of_ble_eq_true rfl)) dX6_symmetries_22 ⟨Nat.zero_le _, Nat.zero_le _⟩) hS (fun q _ h => hFc q h) hFc (fun r_5 u t H1 locs ht hvm hq hB hz1 hk1 hS => ?_)
          obtain ⟨hP1, hK1, hD1⟩ := hB
          rw [ht] at hP1
          try dsimp only at hq
          obtain ⟨hP, hD⟩ := va_join (wr := []) (w1 := [(aM, .inr (5, [.ref aZ, .ref aPast, .int pastMany, .ref aKz, .int isKept, .ref aBuf, .int typed, .ref aStk, .ref aLaid, .int wid, .int hei, .ref aPcs, .ref aTold, .int toldMany, .int spot, .int wrong])), (aZ, .inl (cI, 207, .inl zz))]) hP hD [0, 1] [] rfl rfl (by decide) (by decide) hk1 hFc hP1 hD1
          have hP := hP.sub (ws' := [(aM, .inr (5, [.ref aZ, .ref aPast, .int pastMany, .ref aKz, .int isKept, .ref aBuf, .int typed, .ref aStk, .ref aLaid, .int wid, .int hei, .ref aPcs, .ref aTold, .int toldMany, .int spot, .int wrong])), (aZ, .inl (cI, 207, .inl zz))]) [0, 1] rfl
          have hD := hD.sub (ws' := [(aM, .inr (5, [.ref aZ, .ref aPast, .int pastMany, .ref aKz, .int isKept, .ref aBuf, .int typed, .ref aStk, .ref aLaid, .int wid, .int hei, .ref aPcs, .ref aTold, .int toldMany, .int spot, .int wrong])), (aZ, .inl (cI, 207, .inl zz))]) [0, 1] (by decide) rfl
          generalize H1 = H at hP hS ⊢
          refine lv_istore (lv' := [(4, .int r_5), (0, .ref aM), (1, .int v1_3), (2, .int v2_2), (3, .int v3_4)]) hx hb dX6_symmetries_25 hl (by decide) rfl (fun ls hl => ?_)
          refine lv_iload_n hx hb dX6_symmetries_27 rfl (lv_at hl 2 rfl) ?_
          refine lv_aload_n hx hb dX6_symmetries_28 rfl (lv_at hl 1 rfl) ?_
          refine lv_bipush (v := 7) hx hb dX6_symmetries_29 (by decide) ?_
          refine lv_iload_n hx hb dX6_symmetries_31 rfl (lv_at hl 4 rfl) ?_
          refine lv_isub hx hb dX6_symmetries_32 ?_
          refine lv_iload_n hx hb dX6_symmetries_33 rfl (lv_at hl 3 rfl) ?_
          have hPc := hP.sub (ws' := [(aM, .inr (5, [.ref aZ, .ref aPast, .int pastMany, .ref aKz, .int isKept, .ref aBuf, .int typed, .ref aStk, .ref aLaid, .int wid, .int hei, .ref aPcs, .ref aTold, .int toldMany, .int spot, .int wrong])), (aZ, .inl (cI, 207, .inl zz))]) [0, 1] rfl
          have hDc := hD.sub (ws' := [(aM, .inr (5, [.ref aZ, .ref aPast, .int pastMany, .ref aKz, .int isKept, .ref aBuf, .int typed, .ref aStk, .ref aLaid, .int wid, .int hei, .ref aPcs, .ref aTold, .int toldMany, .int spot, .int wrong])), (aZ, .inl (cI, 207, .inl zz))]) [0, 1] (by decide) rfl
          have hFc := va_free (wc := [(aM, .inr (5, [.ref aZ, .ref aPast, .int pastMany, .ref aKz, .int isKept, .ref aBuf, .int typed, .ref aStk, .ref aLaid, .int wid, .int hei, .ref aPcs, .ref aTold, .int toldMany, .int spot, .int wrong])), (aZ, .inl (cI, 207, .inl zz))]) hD hS hA [0, 1] rfl
          refine va_calli (va_runV (As := [.int ((7 : Int32) - v3_4), .int v2_2]) (rest := [.int v1_3]) ⟨hx, hb, hml, hown, hts⟩ (c_X6_hole l dC dI cI cC cS aM aZ aPast aKz aBuf aStk aLaid aPcs aTold _ pastMany isKept typed wid hei toldMany spot wrong zz ((7 : Int32) - v3_4) v2_2 hq) (cwV 2 hts gX6_symmetries_X6_hole rfl rfl rfl (by decide +kernel) ⟨Nat.le_of_ble_eq_true rfl, Nat.le_of_ble_eq_true rfl⟩) (gn_preV hPc hK hN hDc (ci := 5) (q0 := 0) rfl rfl) rfl rfl hl.1 rfl (lv_room (Nat.le_of_ble_eq_true rfl)) dX6_symmetries_34 ⟨Nat.zero_le _, Nat.zero_le _⟩) hS (fun q _ h => hFc q h) hFc (fun r_6 u t H1 locs ht hvm hq hB hz1 hk1 hS => ?_)
          obtain ⟨hP1, hK1, hD1⟩ := hB
          rw [ht] at hP1
          try dsimp only at hq
          obtain ⟨hP, hD⟩ := va_join (wr := []) (w1 := [(aM, .inr (5, [.ref aZ, .ref aPast, .int pastMany, .ref aKz, .int isKept, .ref aBuf, .int typed, .ref aStk, .ref aLaid, .int wid, .int hei, .ref aPcs, .ref aTold, .int toldMany, .int spot, .int wrong])), (aZ, .inl (cI, 207, .inl zz))]) hP hD [0, 1] [] rfl rfl (by decide) (by decide) hk1 hFc hP1 hD1
          have hP := hP.sub (ws' := [(aM, .inr (5, [.ref aZ, .ref aPast, .int pastMany, .ref aKz, .int isKept, .ref aBuf, .int typed, .ref aStk, .ref aLaid, .int wid, .int hei, .ref aPcs, .ref aTold, .int toldMany, .int spot, .int wrong])), (aZ, .inl (cI, 207, .inl zz))]) [0, 1] rfl
          have hD := hD.sub (ws' := [(aM, .inr (5, [.ref aZ, .ref aPast, .int pastMany, .ref aKz, .int isKept, .ref aBuf, .int typed, .ref aStk, .ref aLaid, .int wid, .int hei, .ref aPcs, .ref aTold, .int toldMany, .int spot, .int wrong])), (aZ, .inl (cI, 207, .inl zz))]) [0, 1] (by decide) rfl
          generalize H1 = H at hP hS ⊢
          refine lv_iload hx hb dX6_symmetries_37 (lv_at hl 0 rfl) ?_
          have hq := hq (fun (t_7 : Int32) => ∀ (H : Heap) (locs : List Loc) (ls : Array Slot), va_P (dC, dI) vwCl [(aM, .inr (5, [.ref aZ, .ref aPast, .int pastMany, .ref aKz, .int isKept, .ref aBuf, .int typed, .ref aStk, .ref aLaid, .int wid, .int hei, .ref aPcs, .ref aTold, .int toldMany, .int spot, .int wrong])), (aZ, .inl (cI, 207, .inl zz))] H → va_D A [(aM, .inr (5, [.ref aZ, .ref aPast, .int pastMany, .ref aKz, .int isKept, .ref aBuf, .int typed, .ref aStk, .ref aLaid, .int wid, .int hei, .ref aPcs, .ref aTold, .int toldMany, .int spot, .int wrong])), (aZ, .inl (cI, 207, .inl zz))] → va_S A s.heap H locs → lv_has ls 5 [(0, .ref aM), (2, .int v2_2), (3, .int v3_4), (4, .int r_5)] → W p l e ({ frames := 1, cells := 0, slots := 0, locals := 22 } : Room) s m ([.ref aM] : List Value).toArray below meth c H locs 0 0 Q (F0 m 49 ls [.int t_7, .int v1_3])) (by
            intro t_7 hq H locs ls hP hD hS hl
            refine lv_iand hx hb dX6_symmetries_49 ?_
            refine lv_topi (fun w1_8 ew1_8 => ?_)
            have hq := hq w1_8 ew1_8
            refine lv_istore_n (lv' := [(1, .int w1_8), (0, .ref aM), (2, .int v2_2), (3, .int v3_4), (4, .int r_5)]) hx hb dX6_symmetries_50 rfl hl (by decide) rfl (fun ls hl => ?_)
            refine lv_iload_n hx hb dX6_symmetries_51 rfl (lv_at hl 0 rfl) ?_
            refine lv_aload_n hx hb dX6_symmetries_52 rfl (lv_at hl 1 rfl) ?_
            refine lv_iload_n hx hb dX6_symmetries_53 rfl (lv_at hl 3 rfl) ?_
            refine lv_bipush (v := 7) hx hb dX6_symmetries_54 (by decide) ?_
            refine lv_iload_n hx hb dX6_symmetries_56 rfl (lv_at hl 2 rfl) ?_
            refine lv_isub hx hb dX6_symmetries_57 ?_
            have hPc := hP.sub (ws' := [(aM, .inr (5, [.ref aZ, .ref aPast, .int pastMany, .ref aKz, .int isKept, .ref aBuf, .int typed, .ref aStk, .ref aLaid, .int wid, .int hei, .ref aPcs, .ref aTold, .int toldMany, .int spot, .int wrong])), (aZ, .inl (cI, 207, .inl zz))]) [0, 1] rfl
            have hDc := hD.sub (ws' := [(aM, .inr (5, [.ref aZ, .ref aPast, .int pastMany, .ref aKz, .int isKept, .ref aBuf, .int typed, .ref aStk, .ref aLaid, .int wid, .int hei, .ref aPcs, .ref aTold, .int toldMany, .int spot, .int wrong])), (aZ, .inl (cI, 207, .inl zz))]) [0, 1] (by decide) rfl
            have hFc := va_free (wc := [(aM, .inr (5, [.ref aZ, .ref aPast, .int pastMany, .ref aKz, .int isKept, .ref aBuf, .int typed, .ref aStk, .ref aLaid, .int wid, .int hei, .ref aPcs, .ref aTold, .int toldMany, .int spot, .int wrong])), (aZ, .inl (cI, 207, .inl zz))]) hD hS hA [0, 1] rfl
            refine va_calli (va_runV (As := [.int v3_4, .int ((7 : Int32) - v2_2)]) (rest := [.int w1_8]) ⟨hx, hb, hml, hown, hts⟩ (c_X6_hole l dC dI cI cC cS aM aZ aPast aKz aBuf aStk aLaid aPcs aTold _ pastMany isKept typed wid hei toldMany spot wrong zz v3_4 ((7 : Int32) - v2_2) hq) (cwV 2 hts gX6_symmetries_X6_hole rfl rfl rfl (by decide +kernel) ⟨Nat.le_of_ble_eq_true rfl, Nat.le_of_ble_eq_true rfl⟩) (gn_preV hPc hK hN hDc (ci := 5) (q0 := 0) rfl rfl) rfl rfl hl.1 rfl (lv_room (Nat.le_of_ble_eq_true rfl)) dX6_symmetries_58 ⟨Nat.zero_le _, Nat.zero_le _⟩) hS (fun q _ h => hFc q h) hFc (fun r_9 u t H1 locs ht hvm hq hB hz1 hk1 hS => ?_)
            obtain ⟨hP1, hK1, hD1⟩ := hB
            rw [ht] at hP1
            try dsimp only at hq
            obtain ⟨hP, hD⟩ := va_join (wr := []) (w1 := [(aM, .inr (5, [.ref aZ, .ref aPast, .int pastMany, .ref aKz, .int isKept, .ref aBuf, .int typed, .ref aStk, .ref aLaid, .int wid, .int hei, .ref aPcs, .ref aTold, .int toldMany, .int spot, .int wrong])), (aZ, .inl (cI, 207, .inl zz))]) hP hD [0, 1] [] rfl rfl (by decide) (by decide) hk1 hFc hP1 hD1
            have hP := hP.sub (ws' := [(aM, .inr (5, [.ref aZ, .ref aPast, .int pastMany, .ref aKz, .int isKept, .ref aBuf, .int typed, .ref aStk, .ref aLaid, .int wid, .int hei, .ref aPcs, .ref aTold, .int toldMany, .int spot, .int wrong])), (aZ, .inl (cI, 207, .inl zz))]) [0, 1] rfl
            have hD := hD.sub (ws' := [(aM, .inr (5, [.ref aZ, .ref aPast, .int pastMany, .ref aKz, .int isKept, .ref aBuf, .int typed, .ref aStk, .ref aLaid, .int wid, .int hei, .ref aPcs, .ref aTold, .int toldMany, .int spot, .int wrong])), (aZ, .inl (cI, 207, .inl zz))]) [0, 1] (by decide) rfl
            generalize H1 = H at hP hS ⊢
            refine lv_iload hx hb dX6_symmetries_61 (lv_at hl 4 rfl) ?_
            have hq := hq (fun (t_10 : Int32) => ∀ (H : Heap) (locs : List Loc) (ls : Array Slot), va_P (dC, dI) vwCl [(aM, .inr (5, [.ref aZ, .ref aPast, .int pastMany, .ref aKz, .int isKept, .ref aBuf, .int typed, .ref aStk, .ref aLaid, .int wid, .int hei, .ref aPcs, .ref aTold, .int toldMany, .int spot, .int wrong])), (aZ, .inl (cI, 207, .inl zz))] H → va_D A [(aM, .inr (5, [.ref aZ, .ref aPast, .int pastMany, .ref aKz, .int isKept, .ref aBuf, .int typed, .ref aStk, .ref aLaid, .int wid, .int hei, .ref aPcs, .ref aTold, .int toldMany, .int spot, .int wrong])), (aZ, .inl (cI, 207, .inl zz))] → va_S A s.heap H locs → lv_has ls 5 [(0, .ref aM), (2, .int v2_2), (3, .int v3_4), (4, .int r_5)] → W p l e ({ frames := 1, cells := 0, slots := 0, locals := 22 } : Room) s m ([.ref aM] : List Value).toArray below meth c H locs 0 0 Q (F0 m 73 ls [.int t_10, .int w1_8])) (by
              intro t_10 hq H locs ls hP hD hS hl
              refine lv_iand hx hb dX6_symmetries_73 ?_
              refine lv_topi (fun w1_11 ew1_11 => ?_)
              have hq := hq w1_11 ew1_11
              refine lv_istore_n (lv' := [(1, .int w1_11), (0, .ref aM), (2, .int v2_2), (3, .int v3_4), (4, .int r_5)]) hx hb dX6_symmetries_74 rfl hl (by decide) rfl (fun ls hl => ?_)
              refine lv_iload_n hx hb dX6_symmetries_75 rfl (lv_at hl 0 rfl) ?_
              refine lv_aload_n hx hb dX6_symmetries_76 rfl (lv_at hl 1 rfl) ?_
              refine lv_bipush (v := 7) hx hb dX6_symmetries_77 (by decide) ?_
              refine lv_iload_n hx hb dX6_symmetries_79 rfl (lv_at hl 3 rfl) ?_
              refine lv_isub hx hb dX6_symmetries_80 ?_
              refine lv_bipush (v := 7) hx hb dX6_symmetries_81 (by decide) ?_
              refine lv_iload_n hx hb dX6_symmetries_83 rfl (lv_at hl 2 rfl) ?_
              refine lv_isub hx hb dX6_symmetries_84 ?_
              have hPc := hP.sub (ws' := [(aM, .inr (5, [.ref aZ, .ref aPast, .int pastMany, .ref aKz, .int isKept, .ref aBuf, .int typed, .ref aStk, .ref aLaid, .int wid, .int hei, .ref aPcs, .ref aTold, .int toldMany, .int spot, .int wrong])), (aZ, .inl (cI, 207, .inl zz))]) [0, 1] rfl
              have hDc := hD.sub (ws' := [(aM, .inr (5, [.ref aZ, .ref aPast, .int pastMany, .ref aKz, .int isKept, .ref aBuf, .int typed, .ref aStk, .ref aLaid, .int wid, .int hei, .ref aPcs, .ref aTold, .int toldMany, .int spot, .int wrong])), (aZ, .inl (cI, 207, .inl zz))]) [0, 1] (by decide) rfl
              have hFc := va_free (wc := [(aM, .inr (5, [.ref aZ, .ref aPast, .int pastMany, .ref aKz, .int isKept, .ref aBuf, .int typed, .ref aStk, .ref aLaid, .int wid, .int hei, .ref aPcs, .ref aTold, .int toldMany, .int spot, .int wrong])), (aZ, .inl (cI, 207, .inl zz))]) hD hS hA [0, 1] rfl
              refine va_calli (va_runV (As := [.int ((7 : Int32) - v3_4), .int ((7 : Int32) - v2_2)]) (rest := [.int w1_11]) ⟨hx, hb, hml, hown, hts⟩ (c_X6_hole l dC dI cI cC cS aM aZ aPast aKz aBuf aStk aLaid aPcs aTold _ pastMany isKept typed wid hei toldMany spot wrong zz ((7 : Int32) - v3_4) ((7 : Int32) - v2_2) hq) (cwV 2 hts gX6_symmetries_X6_hole rfl rfl rfl (by decide +kernel) ⟨Nat.le_of_ble_eq_true rfl, Nat.le_of_ble_eq_true rfl⟩) (gn_preV hPc hK hN hDc (ci := 5) (q0 := 0) rfl rfl) rfl rfl hl.1 rfl (lv_room (Nat.le_of_ble_eq_true rfl)) dX6_symmetries_85 ⟨Nat.zero_le _, Nat.zero_le _⟩) hS (fun q _ h => hFc q h) hFc (fun r_12 u t H1 locs ht hvm hq hB hz1 hk1 hS => ?_)
              obtain ⟨hP1, hK1, hD1⟩ := hB
              rw [ht] at hP1
              try dsimp only at hq
              obtain ⟨hP, hD⟩ := va_join (wr := []) (w1 := [(aM, .inr (5, [.ref aZ, .ref aPast, .int pastMany, .ref aKz, .int isKept, .ref aBuf, .int typed, .ref aStk, .ref aLaid, .int wid, .int hei, .ref aPcs, .ref aTold, .int toldMany, .int spot, .int wrong])), (aZ, .inl (cI, 207, .inl zz))]) hP hD [0, 1] [] rfl rfl (by decide) (by decide) hk1 hFc hP1 hD1
              have hP := hP.sub (ws' := [(aM, .inr (5, [.ref aZ, .ref aPast, .int pastMany, .ref aKz, .int isKept, .ref aBuf, .int typed, .ref aStk, .ref aLaid, .int wid, .int hei, .ref aPcs, .ref aTold, .int toldMany, .int spot, .int wrong])), (aZ, .inl (cI, 207, .inl zz))]) [0, 1] rfl
              have hD := hD.sub (ws' := [(aM, .inr (5, [.ref aZ, .ref aPast, .int pastMany, .ref aKz, .int isKept, .ref aBuf, .int typed, .ref aStk, .ref aLaid, .int wid, .int hei, .ref aPcs, .ref aTold, .int toldMany, .int spot, .int wrong])), (aZ, .inl (cI, 207, .inl zz))]) [0, 1] (by decide) rfl
              generalize H1 = H at hP hS ⊢
              refine lv_iload hx hb dX6_symmetries_88 (lv_at hl 4 rfl) ?_
              have hq := hq (fun (t_13 : Int32) => ∀ (H : Heap) (locs : List Loc) (ls : Array Slot), va_P (dC, dI) vwCl [(aM, .inr (5, [.ref aZ, .ref aPast, .int pastMany, .ref aKz, .int isKept, .ref aBuf, .int typed, .ref aStk, .ref aLaid, .int wid, .int hei, .ref aPcs, .ref aTold, .int toldMany, .int spot, .int wrong])), (aZ, .inl (cI, 207, .inl zz))] H → va_D A [(aM, .inr (5, [.ref aZ, .ref aPast, .int pastMany, .ref aKz, .int isKept, .ref aBuf, .int typed, .ref aStk, .ref aLaid, .int wid, .int hei, .ref aPcs, .ref aTold, .int toldMany, .int spot, .int wrong])), (aZ, .inl (cI, 207, .inl zz))] → va_S A s.heap H locs → lv_has ls 5 [(0, .ref aM), (2, .int v2_2), (3, .int v3_4), (4, .int r_5)] → W p l e ({ frames := 1, cells := 0, slots := 0, locals := 22 } : Room) s m ([.ref aM] : List Value).toArray below meth c H locs 0 0 Q (F0 m 100 ls [.int t_13, .int w1_11])) (by
                intro t_13 hq H locs ls hP hD hS hl
                refine lv_iand hx hb dX6_symmetries_100 ?_
                refine lv_topi (fun w1_14 ew1_14 => ?_)
                have hq := hq w1_14 ew1_14
                refine lv_istore_n (lv' := [(1, .int w1_14), (0, .ref aM), (2, .int v2_2), (3, .int v3_4), (4, .int r_5)]) hx hb dX6_symmetries_101 rfl hl (by decide) rfl (fun ls hl => ?_)
                refine lv_iload_n hx hb dX6_symmetries_102 rfl (lv_at hl 0 rfl) ?_
                refine lv_aload_n hx hb dX6_symmetries_103 rfl (lv_at hl 1 rfl) ?_
                refine lv_iload_n hx hb dX6_symmetries_104 rfl (lv_at hl 2 rfl) ?_
                refine lv_iload_n hx hb dX6_symmetries_105 rfl (lv_at hl 3 rfl) ?_
                have hPc := hP.sub (ws' := [(aM, .inr (5, [.ref aZ, .ref aPast, .int pastMany, .ref aKz, .int isKept, .ref aBuf, .int typed, .ref aStk, .ref aLaid, .int wid, .int hei, .ref aPcs, .ref aTold, .int toldMany, .int spot, .int wrong])), (aZ, .inl (cI, 207, .inl zz))]) [0, 1] rfl
                have hDc := hD.sub (ws' := [(aM, .inr (5, [.ref aZ, .ref aPast, .int pastMany, .ref aKz, .int isKept, .ref aBuf, .int typed, .ref aStk, .ref aLaid, .int wid, .int hei, .ref aPcs, .ref aTold, .int toldMany, .int spot, .int wrong])), (aZ, .inl (cI, 207, .inl zz))]) [0, 1] (by decide) rfl
                have hFc := va_free (wc := [(aM, .inr (5, [.ref aZ, .ref aPast, .int pastMany, .ref aKz, .int isKept, .ref aBuf, .int typed, .ref aStk, .ref aLaid, .int wid, .int hei, .ref aPcs, .ref aTold, .int toldMany, .int spot, .int wrong])), (aZ, .inl (cI, 207, .inl zz))]) hD hS hA [0, 1] rfl
                refine va_calli (va_runV (As := [.int v2_2, .int v3_4]) (rest := [.int w1_14]) ⟨hx, hb, hml, hown, hts⟩ (c_X6_hole l dC dI cI cC cS aM aZ aPast aKz aBuf aStk aLaid aPcs aTold _ pastMany isKept typed wid hei toldMany spot wrong zz v2_2 v3_4 hq) (cwV 2 hts gX6_symmetries_X6_hole rfl rfl rfl (by decide +kernel) ⟨Nat.le_of_ble_eq_true rfl, Nat.le_of_ble_eq_true rfl⟩) (gn_preV hPc hK hN hDc (ci := 5) (q0 := 0) rfl rfl) rfl rfl hl.1 rfl (lv_room (Nat.le_of_ble_eq_true rfl)) dX6_symmetries_106 ⟨Nat.zero_le _, Nat.zero_le _⟩) hS (fun q _ h => hFc q h) hFc (fun r_15 u t H1 locs ht hvm hq hB hz1 hk1 hS => ?_)
                obtain ⟨hP1, hK1, hD1⟩ := hB
                rw [ht] at hP1
                try dsimp only at hq
                obtain ⟨hP, hD⟩ := va_join (wr := []) (w1 := [(aM, .inr (5, [.ref aZ, .ref aPast, .int pastMany, .ref aKz, .int isKept, .ref aBuf, .int typed, .ref aStk, .ref aLaid, .int wid, .int hei, .ref aPcs, .ref aTold, .int toldMany, .int spot, .int wrong])), (aZ, .inl (cI, 207, .inl zz))]) hP hD [0, 1] [] rfl rfl (by decide) (by decide) hk1 hFc hP1 hD1
                have hP := hP.sub (ws' := [(aM, .inr (5, [.ref aZ, .ref aPast, .int pastMany, .ref aKz, .int isKept, .ref aBuf, .int typed, .ref aStk, .ref aLaid, .int wid, .int hei, .ref aPcs, .ref aTold, .int toldMany, .int spot, .int wrong])), (aZ, .inl (cI, 207, .inl zz))]) [0, 1] rfl
                have hD := hD.sub (ws' := [(aM, .inr (5, [.ref aZ, .ref aPast, .int pastMany, .ref aKz, .int isKept, .ref aBuf, .int typed, .ref aStk, .ref aLaid, .int wid, .int hei, .ref aPcs, .ref aTold, .int toldMany, .int spot, .int wrong])), (aZ, .inl (cI, 207, .inl zz))]) [0, 1] (by decide) rfl
                generalize H1 = H at hP hS ⊢
                refine lv_iload hx hb dX6_symmetries_109 (lv_at hl 4 rfl) ?_
                have hq := hq (fun (t_16 : Int32) => ∀ (H : Heap) (locs : List Loc) (ls : Array Slot), va_P (dC, dI) vwCl [(aM, .inr (5, [.ref aZ, .ref aPast, .int pastMany, .ref aKz, .int isKept, .ref aBuf, .int typed, .ref aStk, .ref aLaid, .int wid, .int hei, .ref aPcs, .ref aTold, .int toldMany, .int spot, .int wrong])), (aZ, .inl (cI, 207, .inl zz))] H → va_D A [(aM, .inr (5, [.ref aZ, .ref aPast, .int pastMany, .ref aKz, .int isKept, .ref aBuf, .int typed, .ref aStk, .ref aLaid, .int wid, .int hei, .ref aPcs, .ref aTold, .int toldMany, .int spot, .int wrong])), (aZ, .inl (cI, 207, .inl zz))] → va_S A s.heap H locs → lv_has ls 5 [(0, .ref aM), (2, .int v2_2), (3, .int v3_4)] → W p l e ({ frames := 1, cells := 0, slots := 0, locals := 22 } : Room) s m ([.ref aM] : List Value).toArray below meth c H locs 0 0 Q (F0 m 121 ls [.int t_16, .int w1_14])) (by
                  intro t_16 hq H locs ls hP hD hS hl
                  refine lv_iand hx hb dX6_symmetries_121 ?_
                  refine lv_topi (fun w1_17 ew1_17 => ?_)
                  have hq := hq w1_17 ew1_17
                  refine lv_istore_n (lv' := [(1, .int w1_17), (0, .ref aM), (2, .int v2_2), (3, .int v3_4)]) hx hb dX6_symmetries_122 rfl hl (by decide) rfl (fun ls hl => ?_)
                  refine lv_iinc (v := (v3_4 + (1 : Int32))) (lv' := [(3, .int (v3_4 + (1 : Int32))), (1, .int w1_17), (0, .ref aM), (2, .int v2_2)]) hx hb dX6_symmetries_123 hl (k := 3) rfl rfl (by decide) rfl (fun ls hl => ?_)
                  refine lv_goto (tgt := 13) hx hb dX6_symmetries_126 (by decide) ?_
                  exact hq _ _ _ hP hD hS (lv_sub hl [2, 1, 3, 0] rfl))
                refine lv_icmp_ne (tgt := 119) hx hb dX6_symmetries_111 (by decide) (fun hc => ?_) (fun hc => ?_)
                · have hq := hq.1 hc
                  refine lv_bipush (v := 7) hx hb dX6_symmetries_119 (by decide) ?_
                  exact hq _ _ _ hP hD hS (lv_sub hl [1, 2, 3] rfl)
                · have hq := hq.2 hc
                  refine lv_bipush (v := 15) hx hb dX6_symmetries_114 (by decide) ?_
                  refine lv_goto (tgt := 121) hx hb dX6_symmetries_116 (by decide) ?_
                  exact hq _ _ _ hP hD hS (lv_sub hl [1, 2, 3] rfl))
              refine lv_icmp_ne (tgt := 98) hx hb dX6_symmetries_90 (by decide) (fun hc => ?_) (fun hc => ?_)
              · have hq := hq.1 hc
                refine lv_bipush (v := 11) hx hb dX6_symmetries_98 (by decide) ?_
                exact hq _ _ _ hP hD hS (lv_sub hl [1, 2, 3, 4] rfl)
              · have hq := hq.2 hc
                refine lv_bipush (v := 15) hx hb dX6_symmetries_93 (by decide) ?_
                refine lv_goto (tgt := 100) hx hb dX6_symmetries_95 (by decide) ?_
                exact hq _ _ _ hP hD hS (lv_sub hl [1, 2, 3, 4] rfl))
            refine lv_icmp_ne (tgt := 71) hx hb dX6_symmetries_63 (by decide) (fun hc => ?_) (fun hc => ?_)
            · have hq := hq.1 hc
              refine lv_bipush (v := 13) hx hb dX6_symmetries_71 (by decide) ?_
              exact hq _ _ _ hP hD hS (lv_sub hl [1, 2, 3, 4] rfl)
            · have hq := hq.2 hc
              refine lv_bipush (v := 15) hx hb dX6_symmetries_66 (by decide) ?_
              refine lv_goto (tgt := 73) hx hb dX6_symmetries_68 (by decide) ?_
              exact hq _ _ _ hP hD hS (lv_sub hl [1, 2, 3, 4] rfl))
          refine lv_icmp_ne (tgt := 47) hx hb dX6_symmetries_39 (by decide) (fun hc => ?_) (fun hc => ?_)
          · have hq := hq.1 hc
            refine lv_bipush (v := 14) hx hb dX6_symmetries_47 (by decide) ?_
            exact hq _ _ _ hP hD hS (lv_sub hl [1, 3, 4, 0] rfl)
          · have hq := hq.2 hc
            refine lv_bipush (v := 15) hx hb dX6_symmetries_42 (by decide) ?_
            refine lv_goto (tgt := 49) hx hb dX6_symmetries_44 (by decide) ?_
            exact hq _ _ _ hP hD hS (lv_sub hl [1, 3, 4, 0] rfl))
      exact hq _ _ _ hP hD hS (lv_sub hl [1, 2, 3, 0] rfl))
  exact hq _ _ _ hP hD hS (lv_sub hl [2, 1, 0] rfl)
set_option maxRecDepth 20000 in
theorem kwX6_aim_7 : Cond.fieldLink RX6 7 "PunchedFoldsModel" "z" "[I" ∈ wsX6_aim := by decide +kernel
set_option maxRecDepth 20000 in
theorem iwX6_aim_X6 : ∀ w ∈ wsX60, w ∈ wsX6_aim := by decide +kernel
set_option maxHeartbeats 4000000 in
set_option maxRecDepth 100000 in
theorem c_X6_aim (l : Launch) (dC : Nat → ClassId) (dI : Nat → Nat → Nat) (cI cC cS : ClassId) (aM : Nat) (aZ : Nat) (aPast : Nat) (aKz : Nat) (aBuf : Nat) (aStk : Nat) (aLaid : Nat) (aPcs : Nat) (aTold : Nat) (sz : Nat) (pastMany : Int32) (isKept : Int32) (typed : Int32) (wid : Int32) (hei : Int32) (toldMany : Int32) (spot : Int32) (wrong : Int32) (zz : Nat → Int32) (past : Nat → Int32) (x1 : Int32) (x2 : Int32) {post : Int32 → Int32 → (Nat → Int32) → (Nat → Int32) → Prop} (hq : wp_X6_aim pastMany zz past x1 x2 post) : Met l yX6_aim wsX6_aim ({ frames := 1, cells := 0, slots := 0, locals := 22 } : Room) (gn_Pre (dC, dI) cI cC cS [.ref aM, .int x1, .int x2] sz [(aM, .inr (5, [.ref aZ, .ref aPast, .int pastMany, .ref aKz, .int isKept, .ref aBuf, .int typed, .ref aStk, .ref aLaid, .int wid, .int hei, .ref aPcs, .ref aTold, .int toldMany, .int spot, .int wrong])), (aZ, .inl (cI, 207, .inl zz)), (aPast, .inl (cI, 1035, .inl past))]) (va_Qi (fun (r : Int32) (u : Int32 × (Nat → Int32) × (Nat → Int32)) => post r u.1 u.2.1 u.2.2) (fun (u : Int32 × (Nat → Int32) × (Nat → Int32)) t => va_P (dC, dI) vwCl [(aM, .inr (5, [.ref aZ, .ref aPast, .int u.1, .ref aKz, .int isKept, .ref aBuf, .int typed, .ref aStk, .ref aLaid, .int wid, .int hei, .ref aPcs, .ref aTold, .int toldMany, .int spot, .int wrong])), (aZ, .inl (cI, 207, .inl u.2.1)), (aPast, .inl (cI, 1035, .inl u.2.2))] t.heap ∧ va_K (dC, dI) vwCl (gn_tys cI cC cS) t ∧ va_D (va_A [(aM, .inr (5, [.ref aZ, .ref aPast, .int pastMany, .ref aKz, .int isKept, .ref aBuf, .int typed, .ref aStk, .ref aLaid, .int wid, .int hei, .ref aPcs, .ref aTold, .int toldMany, .int spot, .int wrong])), (aZ, .inl (cI, 207, .inl zz)), (aPast, .inl (cI, 1035, .inl past))] sz) [(aM, .inr (5, [.ref aZ, .ref aPast, .int u.1, .ref aKz, .int isKept, .ref aBuf, .int typed, .ref aStk, .ref aLaid, .int wid, .int hei, .ref aPcs, .ref aTold, .int toldMany, .int spot, .int wrong])), (aZ, .inl (cI, 207, .inl u.2.1)), (aPast, .inl (cI, 1035, .inl u.2.2))]) (va_A [(aM, .inr (5, [.ref aZ, .ref aPast, .int pastMany, .ref aKz, .int isKept, .ref aBuf, .int typed, .ref aStk, .ref aLaid, .int wid, .int hei, .ref aPcs, .ref aTold, .int toldMany, .int spot, .int wrong])), (aZ, .inl (cI, 207, .inl zz)), (aPast, .inl (cI, 1035, .inl past))] sz)) 0 0 (va_A [(aM, .inr (5, [.ref aZ, .ref aPast, .int pastMany, .ref aKz, .int isKept, .ref aBuf, .int typed, .ref aStk, .ref aLaid, .int wid, .int hei, .ref aPcs, .ref aTold, .int toldMany, .int spot, .int wrong])), (aZ, .inl (cI, 207, .inl zz)), (aPast, .inl (cI, 1035, .inl past))] sz) := by
  unfold wp_X6_aim at hq
  refine Met.ofW (cc := cX6_aim) (maxL := 4) (ret := (some .int)) (by decide) rfl ?_
  intro p e s m args below meth c s₁ B hml hv
  obtain ⟨rfl, hsz, hP, hK, hN, hD0⟩ := hv
  have hx := B.exec
  have hb := B.bytes
  have hr := B.returns
  have hts := atoms_spec (ws := wsX6_aim) B.pre
  have hown : s.vm.findClass RX6 = some m.cls := findClass_of_methodNamed B.named
  have hlocks := B.notSynchronized
  subst hsz
  have hD := hD0.self (sz := s.heap.size)
  generalize hAe : va_A [(aM, .inr (5, [.ref aZ, .ref aPast, .int pastMany, .ref aKz, .int isKept, .ref aBuf, .int typed, .ref aStk, .ref aLaid, .int wid, .int hei, .ref aPcs, .ref aTold, .int toldMany, .int spot, .int wrong])), (aZ, .inl (cI, 207, .inl zz)), (aPast, .inl (cI, 1035, .inl past))] s.heap.size = A at hD ⊢
  have hA : ∀ q : Nat, s.heap.size ≤ q → A q := fun q h => by rw [← hAe]; exact Or.inr h
  have hS : va_S A s.heap s.heap [] := va_S.rf
  have hl := lv_entry ([.ref aM, .int x1, .int x2] : List Value) (n := 4) (Nat.le_of_ble_eq_true rfl)
  rw [lg_entry_eq]
  generalize (lg_sl ([.ref aM, .int x1, .int x2] : List Value) ++ List.replicate (4 - (lg_sl ([.ref aM, .int x1, .int x2] : List Value)).length) Slot.unset).toArray = ls at hl ⊢
  have hl : lv_has ls 4 [(0, .ref aM), (1, .int x1), (2, .int x2)] := hl
  refine gn_Q (hret := fun Q => ∀ (pc : Nat) (ls : Array Slot) (H : Heap) (locs : List Loc) (r : Int32) (m_pastMany : Int32) (m_zz : Nat → Int32) (m_past : Nat → Int32), decode cX6_aim pc = .ok (.ireturn, 1) → va_P (dC, dI) vwCl [(aM, .inr (5, [.ref aZ, .ref aPast, .int m_pastMany, .ref aKz, .int isKept, .ref aBuf, .int typed, .ref aStk, .ref aLaid, .int wid, .int hei, .ref aPcs, .ref aTold, .int toldMany, .int spot, .int wrong])), (aZ, .inl (cI, 207, .inl m_zz)), (aPast, .inl (cI, 1035, .inl m_past))] H → va_D A [(aM, .inr (5, [.ref aZ, .ref aPast, .int m_pastMany, .ref aKz, .int isKept, .ref aBuf, .int typed, .ref aStk, .ref aLaid, .int wid, .int hei, .ref aPcs, .ref aTold, .int toldMany, .int spot, .int wrong])), (aZ, .inl (cI, 207, .inl m_zz)), (aPast, .inl (cI, 1035, .inl m_past))] → va_S A s.heap H locs → post r m_pastMany m_zz m_past → W p l e ({ frames := 1, cells := 0, slots := 0, locals := 22 } : Room) s m ([.ref aM, .int x1, .int x2] : List Value).toArray below meth c H locs 0 0 Q (F0 m pc ls [.int r])) (fun Q hret => ?_) ?_
  rotate_left
  · intro pc ls H locs r m_pastMany m_zz m_past hdg hP hD hS hpost
    exact W.iret (v := r) hx hb hr (fun t ht hW => ⟨⟨r, (m_pastMany, m_zz, m_past), rfl, hpost, by rw [ht]; exact hP, va_K.moved hW.alike hK, hD⟩, hS.F ht⟩) hS.2.2 hdg
  refine lv_iload_n hx hb dX6_aim_0 rfl (lv_at hl 1 rfl) ?_
  refine lv_iconst (v := 0) hx hb dX6_aim_1 (by decide) ?_
  refine lv_bipush (v := 7) hx hb dX6_aim_2 (by decide) ?_
  have hPc := hP.sub (ws' := []) [] rfl
  have hDc := hD.sub (ws' := []) [] (by decide) rfl
  have hFc := va_free (wc := []) hD hS hA [] rfl
  refine va_calli (va_runS (As := [.int x1, .int (0 : Int32), .int (7 : Int32)]) (rest := []) ⟨hx, hb, hml, hown, hts⟩ (c_X6_in l dC dI cI cC cS _ x1 (0 : Int32) (7 : Int32) hq) (va_cwS 3 hts gX6_aim_X6_in rfl rfl rfl (by decide +kernel) ⟨Nat.le_of_ble_eq_true rfl, Nat.le_of_ble_eq_true rfl⟩) (gn_preS hPc hK hN hDc) rfl rfl hl.1 rfl (lv_room (Nat.le_of_ble_eq_true rfl)) dX6_aim_4 ⟨Nat.zero_le _, Nat.zero_le _⟩) hS (fun q _ h => hFc q h) hFc (fun r_1 u t H1 locs ht hvm hq hB hz1 hk1 hS => ?_)
  obtain ⟨hP1, hK1, hD1⟩ := hB
  rw [ht] at hP1
  try dsimp only at hq
  obtain ⟨hP, hD⟩ := va_join (wr := [(aM, .inr (5, [.ref aZ, .ref aPast, .int pastMany, .ref aKz, .int isKept, .ref aBuf, .int typed, .ref aStk, .ref aLaid, .int wid, .int hei, .ref aPcs, .ref aTold, .int toldMany, .int spot, .int wrong])), (aZ, .inl (cI, 207, .inl zz)), (aPast, .inl (cI, 1035, .inl past))]) (w1 := []) hP hD [] [0, 1, 2] rfl rfl (by decide) (by decide) hk1 hFc hP1 hD1
  have hP := hP.sub (ws' := [(aM, .inr (5, [.ref aZ, .ref aPast, .int pastMany, .ref aKz, .int isKept, .ref aBuf, .int typed, .ref aStk, .ref aLaid, .int wid, .int hei, .ref aPcs, .ref aTold, .int toldMany, .int spot, .int wrong])), (aZ, .inl (cI, 207, .inl zz)), (aPast, .inl (cI, 1035, .inl past))]) [0, 1, 2] rfl
  have hD := hD.sub (ws' := [(aM, .inr (5, [.ref aZ, .ref aPast, .int pastMany, .ref aKz, .int isKept, .ref aBuf, .int typed, .ref aStk, .ref aLaid, .int wid, .int hei, .ref aPcs, .ref aTold, .int toldMany, .int spot, .int wrong])), (aZ, .inl (cI, 207, .inl zz)), (aPast, .inl (cI, 1035, .inl past))]) [0, 1, 2] (by decide) rfl
  generalize H1 = H at hP hS ⊢
  refine lv_if_ne (tgt := 12) hx hb dX6_aim_7 (by decide) (fun hc => ?_) (fun hc => ?_)
  · have hq := hq.1 hc
    refine lv_iload_n hx hb dX6_aim_12 rfl (lv_at hl 2 rfl) ?_
    refine lv_iconst (v := 0) hx hb dX6_aim_13 (by decide) ?_
    refine lv_sipush (v := 255) hx hb dX6_aim_14 (by decide) ?_
    have hPc := hP.sub (ws' := []) [] rfl
    have hDc := hD.sub (ws' := []) [] (by decide) rfl
    have hFc := va_free (wc := []) hD hS hA [] rfl
    refine va_calli (va_runS (As := [.int x2, .int (0 : Int32), .int (255 : Int32)]) (rest := []) ⟨hx, hb, hml, hown, hts⟩ (c_X6_in l dC dI cI cC cS _ x2 (0 : Int32) (255 : Int32) hq) (va_cwS 3 hts gX6_aim_X6_in rfl rfl rfl (by decide +kernel) ⟨Nat.le_of_ble_eq_true rfl, Nat.le_of_ble_eq_true rfl⟩) (gn_preS hPc hK hN hDc) rfl rfl hl.1 rfl (lv_room (Nat.le_of_ble_eq_true rfl)) dX6_aim_17 ⟨Nat.zero_le _, Nat.zero_le _⟩) hS (fun q _ h => hFc q h) hFc (fun r_2 u t H1 locs ht hvm hq hB hz1 hk1 hS => ?_)
    obtain ⟨hP1, hK1, hD1⟩ := hB
    rw [ht] at hP1
    try dsimp only at hq
    obtain ⟨hP, hD⟩ := va_join (wr := [(aM, .inr (5, [.ref aZ, .ref aPast, .int pastMany, .ref aKz, .int isKept, .ref aBuf, .int typed, .ref aStk, .ref aLaid, .int wid, .int hei, .ref aPcs, .ref aTold, .int toldMany, .int spot, .int wrong])), (aZ, .inl (cI, 207, .inl zz)), (aPast, .inl (cI, 1035, .inl past))]) (w1 := []) hP hD [] [0, 1, 2] rfl rfl (by decide) (by decide) hk1 hFc hP1 hD1
    have hP := hP.sub (ws' := [(aM, .inr (5, [.ref aZ, .ref aPast, .int pastMany, .ref aKz, .int isKept, .ref aBuf, .int typed, .ref aStk, .ref aLaid, .int wid, .int hei, .ref aPcs, .ref aTold, .int toldMany, .int spot, .int wrong])), (aZ, .inl (cI, 207, .inl zz)), (aPast, .inl (cI, 1035, .inl past))]) [0, 1, 2] rfl
    have hD := hD.sub (ws' := [(aM, .inr (5, [.ref aZ, .ref aPast, .int pastMany, .ref aKz, .int isKept, .ref aBuf, .int typed, .ref aStk, .ref aLaid, .int wid, .int hei, .ref aPcs, .ref aTold, .int toldMany, .int spot, .int wrong])), (aZ, .inl (cI, 207, .inl zz)), (aPast, .inl (cI, 1035, .inl past))]) [0, 1, 2] (by decide) rfl
    generalize H1 = H at hP hS ⊢
    refine lv_if_ne (tgt := 26) hx hb dX6_aim_20 (by decide) (fun hc => ?_) (fun hc => ?_)
    · have hq := hq.1 hc
      refine lv_aload_n hx hb dX6_aim_26 rfl (lv_at hl 0 rfl) ?_
      have hPc := hP.sub (ws' := [(aM, .inr (5, [.ref aZ, .ref aPast, .int pastMany, .ref aKz, .int isKept, .ref aBuf, .int typed, .ref aStk, .ref aLaid, .int wid, .int hei, .ref aPcs, .ref aTold, .int toldMany, .int spot, .int wrong])), (aZ, .inl (cI, 207, .inl zz)), (aPast, .inl (cI, 1035, .inl past))]) [0, 1, 2] rfl
      have hDc := hD.sub (ws' := [(aM, .inr (5, [.ref aZ, .ref aPast, .int pastMany, .ref aKz, .int isKept, .ref aBuf, .int typed, .ref aStk, .ref aLaid, .int wid, .int hei, .ref aPcs, .ref aTold, .int toldMany, .int spot, .int wrong])), (aZ, .inl (cI, 207, .inl zz)), (aPast, .inl (cI, 1035, .inl past))]) [0, 1, 2] (by decide) rfl
      have hFc := va_free (wc := [(aM, .inr (5, [.ref aZ, .ref aPast, .int pastMany, .ref aKz, .int isKept, .ref aBuf, .int typed, .ref aStk, .ref aLaid, .int wid, .int hei, .ref aPcs, .ref aTold, .int toldMany, .int spot, .int wrong])), (aZ, .inl (cI, 207, .inl zz)), (aPast, .inl (cI, 1035, .inl past))]) hD hS hA [0, 1, 2] rfl
      refine va_callv (va_runV (As := []) (rest := []) ⟨hx, hb, hml, hown, hts⟩ (c_X6_record l dC dI cI cC cS aM aZ aPast aKz aBuf aStk aLaid aPcs aTold _ pastMany isKept typed wid hei toldMany spot wrong zz past hq) (cwV 0 hts gX6_aim_X6_record rfl rfl rfl (by decide +kernel) ⟨Nat.le_of_ble_eq_true rfl, Nat.le_of_ble_eq_true rfl⟩) (gn_preV hPc hK hN hDc (ci := 5) (q0 := 0) rfl rfl) rfl rfl hl.1 rfl (lv_room (Nat.le_of_ble_eq_true rfl)) dX6_aim_27 ⟨Nat.zero_le _, Nat.zero_le _⟩) hS (fun q _ h => hFc q h) hFc (fun u t H1 locs ht hvm hq hB hz1 hk1 hS => ?_)
      obtain ⟨pastMany__3, past__4⟩ := u
      obtain ⟨hP1, hK1, hD1⟩ := hB
      rw [ht] at hP1
      try dsimp only at hq
      obtain ⟨hP, hD⟩ := va_join (wr := []) (w1 := [(aM, .inr (5, [.ref aZ, .ref aPast, .int pastMany__3, .ref aKz, .int isKept, .ref aBuf, .int typed, .ref aStk, .ref aLaid, .int wid, .int hei, .ref aPcs, .ref aTold, .int toldMany, .int spot, .int wrong])), (aZ, .inl (cI, 207, .inl zz)), (aPast, .inl (cI, 1035, .inl past__4))]) hP hD [0, 1, 2] [] rfl rfl (by decide) (by decide) hk1 hFc hP1 hD1
      have hP := hP.sub (ws' := [(aM, .inr (5, [.ref aZ, .ref aPast, .int pastMany__3, .ref aKz, .int isKept, .ref aBuf, .int typed, .ref aStk, .ref aLaid, .int wid, .int hei, .ref aPcs, .ref aTold, .int toldMany, .int spot, .int wrong])), (aZ, .inl (cI, 207, .inl zz)), (aPast, .inl (cI, 1035, .inl past__4))]) [0, 1, 2] rfl
      have hD := hD.sub (ws' := [(aM, .inr (5, [.ref aZ, .ref aPast, .int pastMany__3, .ref aKz, .int isKept, .ref aBuf, .int typed, .ref aStk, .ref aLaid, .int wid, .int hei, .ref aPcs, .ref aTold, .int toldMany, .int spot, .int wrong])), (aZ, .inl (cI, 207, .inl zz)), (aPast, .inl (cI, 1035, .inl past__4))]) [0, 1, 2] (by decide) rfl
      generalize H1 = H at hP hS ⊢
      refine lv_aload_n hx hb dX6_aim_30 rfl (lv_at hl 0 rfl) ?_
      refine va_get (D := (dC, dI)) (ci := 5) (v := .ref aZ) (C := RX6) (T := TX6) (N := 16) hx hb hts iwX6_aim_X6 hown hK hP 0 rfl rfl 0 (by decide) (hts _ kwX6_aim_7) (fun _ h9 => h9) rfl dX6_aim_31 ?_
      refine lv_sipush (v := 199) hx hb dX6_aim_34 (by decide) ?_
      refine lv_iload_n hx hb dX6_aim_37 rfl (lv_at hl 1 rfl) ?_
      refine lv_iadd hx hb dX6_aim_38 ?_
      have hin := hq.1
      have hq := hq.2
      refine va_iald hx hb hK hP 1 0 rfl rfl hin dX6_aim_39 ?_
      refine lv_topi (fun w3_5 ew3_5 => ?_)
      have hq := hq w3_5 ew3_5
      refine lv_istore_n (lv' := [(3, .int w3_5), (0, .ref aM), (1, .int x1), (2, .int x2)]) hx hb dX6_aim_40 rfl hl (by decide) rfl (fun ls hl => ?_)
      refine lv_aload_n hx hb dX6_aim_41 rfl (lv_at hl 1 rfl) ?_
      refine va_get (D := (dC, dI)) (ci := 5) (v := .ref aZ) (C := RX6) (T := TX6) (N := 16) hx hb hts iwX6_aim_X6 hown hK hP 0 rfl rfl 0 (by decide) (hts _ kwX6_aim_7) (fun _ h9 => h9) rfl dX6_aim_42 ?_
      refine lv_sipush (v := 199) hx hb dX6_aim_45 (by decide) ?_
      refine lv_iload_n hx hb dX6_aim_48 rfl (lv_at hl 2 rfl) ?_
      refine lv_iadd hx hb dX6_aim_49 ?_
      refine lv_iload_n hx hb dX6_aim_50 rfl (lv_at hl 3 rfl) ?_
      have hin := hq.1
      have hq := hq.2
      refine va_iast hx hb hK hP hD hS 1 0 rfl rfl hin dX6_aim_51 (fun H locs hP hD hS => ?_)
      have hP : va_P (dC, dI) vwCl [(aM, .inr (5, [.ref aZ, .ref aPast, .int pastMany__3, .ref aKz, .int isKept, .ref aBuf, .int typed, .ref aStk, .ref aLaid, .int wid, .int hei, .ref aPcs, .ref aTold, .int toldMany, .int spot, .int wrong])), (aZ, .inl (cI, 207, .inl (upd zz (((199 : Int32) + x1)).toNatClampNeg x2))), (aPast, .inl (cI, 1035, .inl past__4))] H := hP
      have hD : va_D A [(aM, .inr (5, [.ref aZ, .ref aPast, .int pastMany__3, .ref aKz, .int isKept, .ref aBuf, .int typed, .ref aStk, .ref aLaid, .int wid, .int hei, .ref aPcs, .ref aTold, .int toldMany, .int spot, .int wrong])), (aZ, .inl (cI, 207, .inl (upd zz (((199 : Int32) + x1)).toNatClampNeg x2))), (aPast, .inl (cI, 1035, .inl past__4))] := hD
      refine lv_iload_n hx hb dX6_aim_52 rfl (lv_at hl 0 rfl) ?_
      exact hret _ _ _ _ _ _ _ _ dX6_aim_53 hP hD hS hq
    · have hq := hq.2 hc
      refine lv_bipush (v := -2) hx hb dX6_aim_23 (by decide) ?_
      exact hret _ _ _ _ _ _ _ _ dX6_aim_25 hP hD hS hq
  · have hq := hq.2 hc
    refine lv_iconst (v := -1) hx hb dX6_aim_10 (by decide) ?_
    exact hret _ _ _ _ _ _ _ _ dX6_aim_11 hP hD hS hq
set_option maxRecDepth 20000 in
theorem kwX6_aimHere_7 : Cond.fieldLink RX6 7 "PunchedFoldsModel" "z" "[I" ∈ wsX6_aimHere := by decide +kernel
set_option maxRecDepth 20000 in
theorem iwX6_aimHere_X6 : ∀ w ∈ wsX60, w ∈ wsX6_aimHere := by decide +kernel
set_option maxHeartbeats 4000000 in
set_option maxRecDepth 100000 in
theorem c_X6_aimHere (l : Launch) (dC : Nat → ClassId) (dI : Nat → Nat → Nat) (cI cC cS : ClassId) (aM : Nat) (aZ : Nat) (aPast : Nat) (aKz : Nat) (aBuf : Nat) (aStk : Nat) (aLaid : Nat) (aPcs : Nat) (aTold : Nat) (sz : Nat) (pastMany : Int32) (isKept : Int32) (typed : Int32) (wid : Int32) (hei : Int32) (toldMany : Int32) (spot : Int32) (wrong : Int32) (zz : Nat → Int32) (past : Nat → Int32) (pcs : Nat → Int32) {post : Int32 → Int32 → (Nat → Int32) → (Nat → Int32) → (Nat → Int32) → Prop} (hq : wp_X6_aimHere pastMany zz past pcs post) : Met l yX6_aimHere wsX6_aimHere ({ frames := 4, cells := 0, slots := 0, locals := 92 } : Room) (gn_Pre (dC, dI) cI cC cS [.ref aM] sz [(aM, .inr (5, [.ref aZ, .ref aPast, .int pastMany, .ref aKz, .int isKept, .ref aBuf, .int typed, .ref aStk, .ref aLaid, .int wid, .int hei, .ref aPcs, .ref aTold, .int toldMany, .int spot, .int wrong])), (aZ, .inl (cI, 207, .inl zz)), (aPast, .inl (cI, 1035, .inl past)), (aPcs, .inl (cI, 64, .inl pcs))]) (va_Qi (fun (r : Int32) (u : Int32 × (Nat → Int32) × (Nat → Int32) × (Nat → Int32)) => post r u.1 u.2.1 u.2.2.1 u.2.2.2) (fun (u : Int32 × (Nat → Int32) × (Nat → Int32) × (Nat → Int32)) t => va_P (dC, dI) vwCl [(aM, .inr (5, [.ref aZ, .ref aPast, .int u.1, .ref aKz, .int isKept, .ref aBuf, .int typed, .ref aStk, .ref aLaid, .int wid, .int hei, .ref aPcs, .ref aTold, .int toldMany, .int spot, .int wrong])), (aZ, .inl (cI, 207, .inl u.2.1)), (aPast, .inl (cI, 1035, .inl u.2.2.1)), (aPcs, .inl (cI, 64, .inl u.2.2.2))] t.heap ∧ va_K (dC, dI) vwCl (gn_tys cI cC cS) t ∧ va_D (va_A [(aM, .inr (5, [.ref aZ, .ref aPast, .int pastMany, .ref aKz, .int isKept, .ref aBuf, .int typed, .ref aStk, .ref aLaid, .int wid, .int hei, .ref aPcs, .ref aTold, .int toldMany, .int spot, .int wrong])), (aZ, .inl (cI, 207, .inl zz)), (aPast, .inl (cI, 1035, .inl past)), (aPcs, .inl (cI, 64, .inl pcs))] sz) [(aM, .inr (5, [.ref aZ, .ref aPast, .int u.1, .ref aKz, .int isKept, .ref aBuf, .int typed, .ref aStk, .ref aLaid, .int wid, .int hei, .ref aPcs, .ref aTold, .int toldMany, .int spot, .int wrong])), (aZ, .inl (cI, 207, .inl u.2.1)), (aPast, .inl (cI, 1035, .inl u.2.2.1)), (aPcs, .inl (cI, 64, .inl u.2.2.2))]) (va_A [(aM, .inr (5, [.ref aZ, .ref aPast, .int pastMany, .ref aKz, .int isKept, .ref aBuf, .int typed, .ref aStk, .ref aLaid, .int wid, .int hei, .ref aPcs, .ref aTold, .int toldMany, .int spot, .int wrong])), (aZ, .inl (cI, 207, .inl zz)), (aPast, .inl (cI, 1035, .inl past)), (aPcs, .inl (cI, 64, .inl pcs))] sz)) 0 0 (va_A [(aM, .inr (5, [.ref aZ, .ref aPast, .int pastMany, .ref aKz, .int isKept, .ref aBuf, .int typed, .ref aStk, .ref aLaid, .int wid, .int hei, .ref aPcs, .ref aTold, .int toldMany, .int spot, .int wrong])), (aZ, .inl (cI, 207, .inl zz)), (aPast, .inl (cI, 1035, .inl past)), (aPcs, .inl (cI, 64, .inl pcs))] sz) := by
  unfold wp_X6_aimHere at hq
  refine Met.ofW (cc := cX6_aimHere) (maxL := 2) (ret := (some .int)) (by decide) rfl ?_
  intro p e s m args below meth c s₁ B hml hv
  obtain ⟨rfl, hsz, hP, hK, hN, hD0⟩ := hv
  have hx := B.exec
  have hb := B.bytes
  have hr := B.returns
  have hts := atoms_spec (ws := wsX6_aimHere) B.pre
  have hown : s.vm.findClass RX6 = some m.cls := findClass_of_methodNamed B.named
  have hlocks := B.notSynchronized
  subst hsz
  have hD := hD0.self (sz := s.heap.size)
  generalize hAe : va_A [(aM, .inr (5, [.ref aZ, .ref aPast, .int pastMany, .ref aKz, .int isKept, .ref aBuf, .int typed, .ref aStk, .ref aLaid, .int wid, .int hei, .ref aPcs, .ref aTold, .int toldMany, .int spot, .int wrong])), (aZ, .inl (cI, 207, .inl zz)), (aPast, .inl (cI, 1035, .inl past)), (aPcs, .inl (cI, 64, .inl pcs))] s.heap.size = A at hD ⊢
  have hA : ∀ q : Nat, s.heap.size ≤ q → A q := fun q h => by rw [← hAe]; exact Or.inr h
  have hS : va_S A s.heap s.heap [] := va_S.rf
  have hl := lv_entry ([.ref aM] : List Value) (n := 2) (Nat.le_of_ble_eq_true rfl)
  rw [lg_entry_eq]
  generalize (lg_sl ([.ref aM] : List Value) ++ List.replicate (2 - (lg_sl ([.ref aM] : List Value)).length) Slot.unset).toArray = ls at hl ⊢
  have hl : lv_has ls 2 [(0, .ref aM)] := hl
  refine gn_Q (hret := fun Q => ∀ (pc : Nat) (ls : Array Slot) (H : Heap) (locs : List Loc) (r : Int32) (m_pastMany : Int32) (m_zz : Nat → Int32) (m_past : Nat → Int32) (m_pcs : Nat → Int32), decode cX6_aimHere pc = .ok (.ireturn, 1) → va_P (dC, dI) vwCl [(aM, .inr (5, [.ref aZ, .ref aPast, .int m_pastMany, .ref aKz, .int isKept, .ref aBuf, .int typed, .ref aStk, .ref aLaid, .int wid, .int hei, .ref aPcs, .ref aTold, .int toldMany, .int spot, .int wrong])), (aZ, .inl (cI, 207, .inl m_zz)), (aPast, .inl (cI, 1035, .inl m_past)), (aPcs, .inl (cI, 64, .inl m_pcs))] H → va_D A [(aM, .inr (5, [.ref aZ, .ref aPast, .int m_pastMany, .ref aKz, .int isKept, .ref aBuf, .int typed, .ref aStk, .ref aLaid, .int wid, .int hei, .ref aPcs, .ref aTold, .int toldMany, .int spot, .int wrong])), (aZ, .inl (cI, 207, .inl m_zz)), (aPast, .inl (cI, 1035, .inl m_past)), (aPcs, .inl (cI, 64, .inl m_pcs))] → va_S A s.heap H locs → post r m_pastMany m_zz m_past m_pcs → W p l e ({ frames := 4, cells := 0, slots := 0, locals := 92 } : Room) s m ([.ref aM] : List Value).toArray below meth c H locs 0 0 Q (F0 m pc ls [.int r])) (fun Q hret => ?_) ?_
  rotate_left
  · intro pc ls H locs r m_pastMany m_zz m_past m_pcs hdg hP hD hS hpost
    exact W.iret (v := r) hx hb hr (fun t ht hW => ⟨⟨r, (m_pastMany, m_zz, m_past, m_pcs), rfl, hpost, by rw [ht]; exact hP, va_K.moved hW.alike hK, hD⟩, hS.F ht⟩) hS.2.2 hdg
  refine lv_aload_n hx hb dX6_aimHere_0 rfl (lv_at hl 0 rfl) ?_
  have hPc := hP.sub (ws' := [(aM, .inr (5, [.ref aZ, .ref aPast, .int pastMany, .ref aKz, .int isKept, .ref aBuf, .int typed, .ref aStk, .ref aLaid, .int wid, .int hei, .ref aPcs, .ref aTold, .int toldMany, .int spot, .int wrong])), (aZ, .inl (cI, 207, .inl zz)), (aPast, .inl (cI, 1035, .inl past))]) [0, 1, 2] rfl
  have hDc := hD.sub (ws' := [(aM, .inr (5, [.ref aZ, .ref aPast, .int pastMany, .ref aKz, .int isKept, .ref aBuf, .int typed, .ref aStk, .ref aLaid, .int wid, .int hei, .ref aPcs, .ref aTold, .int toldMany, .int spot, .int wrong])), (aZ, .inl (cI, 207, .inl zz)), (aPast, .inl (cI, 1035, .inl past))]) [0, 1, 2] (by decide) rfl
  have hFc := va_free (wc := [(aM, .inr (5, [.ref aZ, .ref aPast, .int pastMany, .ref aKz, .int isKept, .ref aBuf, .int typed, .ref aStk, .ref aLaid, .int wid, .int hei, .ref aPcs, .ref aTold, .int toldMany, .int spot, .int wrong])), (aZ, .inl (cI, 207, .inl zz)), (aPast, .inl (cI, 1035, .inl past))]) hD hS hA [0, 1, 2] rfl
  refine va_callv (va_runV (As := []) (rest := []) ⟨hx, hb, hml, hown, hts⟩ (c_X6_record l dC dI cI cC cS aM aZ aPast aKz aBuf aStk aLaid aPcs aTold _ pastMany isKept typed wid hei toldMany spot wrong zz past hq) (cwV 0 hts gX6_aimHere_X6_record rfl rfl rfl (by decide +kernel) ⟨Nat.le_of_ble_eq_true rfl, Nat.le_of_ble_eq_true rfl⟩) (gn_preV hPc hK hN hDc (ci := 5) (q0 := 0) rfl rfl) rfl rfl hl.1 rfl (lv_room (Nat.le_of_ble_eq_true rfl)) dX6_aimHere_1 ⟨Nat.zero_le _, Nat.zero_le _⟩) hS (fun q _ h => hFc q h) hFc (fun u t H1 locs ht hvm hq hB hz1 hk1 hS => ?_)
  obtain ⟨pastMany__1, past__2⟩ := u
  obtain ⟨hP1, hK1, hD1⟩ := hB
  rw [ht] at hP1
  try dsimp only at hq
  obtain ⟨hP, hD⟩ := va_join (wr := [(aPcs, .inl (cI, 64, .inl pcs))]) (w1 := [(aM, .inr (5, [.ref aZ, .ref aPast, .int pastMany__1, .ref aKz, .int isKept, .ref aBuf, .int typed, .ref aStk, .ref aLaid, .int wid, .int hei, .ref aPcs, .ref aTold, .int toldMany, .int spot, .int wrong])), (aZ, .inl (cI, 207, .inl zz)), (aPast, .inl (cI, 1035, .inl past__2))]) hP hD [0, 1, 2] [3] rfl rfl (by decide) (by decide) hk1 hFc hP1 hD1
  have hP := hP.sub (ws' := [(aM, .inr (5, [.ref aZ, .ref aPast, .int pastMany__1, .ref aKz, .int isKept, .ref aBuf, .int typed, .ref aStk, .ref aLaid, .int wid, .int hei, .ref aPcs, .ref aTold, .int toldMany, .int spot, .int wrong])), (aZ, .inl (cI, 207, .inl zz)), (aPast, .inl (cI, 1035, .inl past__2)), (aPcs, .inl (cI, 64, .inl pcs))]) [1, 2, 3, 0] rfl
  have hD := hD.sub (ws' := [(aM, .inr (5, [.ref aZ, .ref aPast, .int pastMany__1, .ref aKz, .int isKept, .ref aBuf, .int typed, .ref aStk, .ref aLaid, .int wid, .int hei, .ref aPcs, .ref aTold, .int toldMany, .int spot, .int wrong])), (aZ, .inl (cI, 207, .inl zz)), (aPast, .inl (cI, 1035, .inl past__2)), (aPcs, .inl (cI, 64, .inl pcs))]) [1, 2, 3, 0] (by decide) rfl
  generalize H1 = H at hP hS ⊢
  refine lv_iconst (v := 0) hx hb dX6_aimHere_4 (by decide) ?_
  refine lv_istore_n (lv' := [(1, .int (0 : Int32)), (0, .ref aM)]) hx hb dX6_aimHere_5 rfl hl (by decide) rfl (fun ls hl => ?_)
  have hq := hq (fun (v1_3 : Int32) (zz__4 : Nat → Int32) => ∀ (H : Heap) (locs : List Loc) (ls : Array Slot), va_P (dC, dI) vwCl [(aM, .inr (5, [.ref aZ, .ref aPast, .int pastMany__1, .ref aKz, .int isKept, .ref aBuf, .int typed, .ref aStk, .ref aLaid, .int wid, .int hei, .ref aPcs, .ref aTold, .int toldMany, .int spot, .int wrong])), (aZ, .inl (cI, 207, .inl zz__4)), (aPast, .inl (cI, 1035, .inl past__2)), (aPcs, .inl (cI, 64, .inl pcs))] H → va_D A [(aM, .inr (5, [.ref aZ, .ref aPast, .int pastMany__1, .ref aKz, .int isKept, .ref aBuf, .int typed, .ref aStk, .ref aLaid, .int wid, .int hei, .ref aPcs, .ref aTold, .int toldMany, .int spot, .int wrong])), (aZ, .inl (cI, 207, .inl zz__4)), (aPast, .inl (cI, 1035, .inl past__2)), (aPcs, .inl (cI, 64, .inl pcs))] → va_S A s.heap H locs → lv_has ls 2 [(0, .ref aM), (1, .int v1_3)] → W p l e ({ frames := 4, cells := 0, slots := 0, locals := 92 } : Room) s m ([.ref aM] : List Value).toArray below meth c H locs 0 0 Q (F0 m 6 ls [])) (by
    intro v1_3 zz__4 hq H locs ls hP hD hS hl
    refine lv_iload_n hx hb dX6_aimHere_6 rfl (lv_at hl 1 rfl) ?_
    refine lv_bipush (v := 8) hx hb dX6_aimHere_7 (by decide) ?_
    refine lv_icmp_ge (tgt := 33) hx hb dX6_aimHere_9 (by decide) (fun hc => ?_) (fun hc => ?_)
    · have hq := hq.1 hc
      refine lv_aload_n hx hb dX6_aimHere_33 rfl (lv_at hl 0 rfl) ?_
      refine lv_iconst (v := 4) hx hb dX6_aimHere_34 (by decide) ?_
      have hPc := hP.sub (ws' := [(aM, .inr (5, [.ref aZ, .ref aPast, .int pastMany__1, .ref aKz, .int isKept, .ref aBuf, .int typed, .ref aStk, .ref aLaid, .int wid, .int hei, .ref aPcs, .ref aTold, .int toldMany, .int spot, .int wrong])), (aZ, .inl (cI, 207, .inl zz__4)), (aPcs, .inl (cI, 64, .inl pcs))]) [0, 1, 3] rfl
      have hDc := hD.sub (ws' := [(aM, .inr (5, [.ref aZ, .ref aPast, .int pastMany__1, .ref aKz, .int isKept, .ref aBuf, .int typed, .ref aStk, .ref aLaid, .int wid, .int hei, .ref aPcs, .ref aTold, .int toldMany, .int spot, .int wrong])), (aZ, .inl (cI, 207, .inl zz__4)), (aPcs, .inl (cI, 64, .inl pcs))]) [0, 1, 3] (by decide) rfl
      have hFc := va_free (wc := [(aM, .inr (5, [.ref aZ, .ref aPast, .int pastMany__1, .ref aKz, .int isKept, .ref aBuf, .int typed, .ref aStk, .ref aLaid, .int wid, .int hei, .ref aPcs, .ref aTold, .int toldMany, .int spot, .int wrong])), (aZ, .inl (cI, 207, .inl zz__4)), (aPcs, .inl (cI, 64, .inl pcs))]) hD hS hA [0, 1, 3] rfl
      refine va_calli (va_runV (As := [.int (4 : Int32)]) (rest := []) ⟨hx, hb, hml, hown, hts⟩ (c_X6_count l dC dI cI cC cS aM aZ aPast aKz aBuf aStk aLaid aPcs aTold _ pastMany__1 isKept typed wid hei toldMany spot wrong zz__4 pcs (4 : Int32) hq) (cwV 1 hts gX6_aimHere_X6_count rfl rfl rfl (by decide +kernel) ⟨Nat.le_of_ble_eq_true rfl, Nat.le_of_ble_eq_true rfl⟩) (gn_preV hPc hK hN hDc (ci := 5) (q0 := 0) rfl rfl) rfl rfl hl.1 rfl (lv_room (Nat.le_of_ble_eq_true rfl)) dX6_aimHere_35 ⟨Nat.zero_le _, Nat.zero_le _⟩) hS (fun q _ h => hFc q h) hFc (fun r_5 u t H1 locs ht hvm hq hB hz1 hk1 hS => ?_)
      obtain ⟨pcs__6, rfl⟩ : ∃ z, z = u := ⟨_, rfl⟩
      obtain ⟨hP1, hK1, hD1⟩ := hB
      rw [ht] at hP1
      try dsimp only at hq
      obtain ⟨hP, hD⟩ := va_join (wr := [(aPast, .inl (cI, 1035, .inl past__2))]) (w1 := [(aM, .inr (5, [.ref aZ, .ref aPast, .int pastMany__1, .ref aKz, .int isKept, .ref aBuf, .int typed, .ref aStk, .ref aLaid, .int wid, .int hei, .ref aPcs, .ref aTold, .int toldMany, .int spot, .int wrong])), (aZ, .inl (cI, 207, .inl zz__4)), (aPcs, .inl (cI, 64, .inl pcs__6))]) hP hD [0, 1, 3] [2] rfl rfl (by decide) (by decide) hk1 hFc hP1 hD1
      have hP := hP.sub (ws' := [(aM, .inr (5, [.ref aZ, .ref aPast, .int pastMany__1, .ref aKz, .int isKept, .ref aBuf, .int typed, .ref aStk, .ref aLaid, .int wid, .int hei, .ref aPcs, .ref aTold, .int toldMany, .int spot, .int wrong])), (aZ, .inl (cI, 207, .inl zz__4)), (aPast, .inl (cI, 1035, .inl past__2)), (aPcs, .inl (cI, 64, .inl pcs__6))]) [1, 2, 0, 3] rfl
      have hD := hD.sub (ws' := [(aM, .inr (5, [.ref aZ, .ref aPast, .int pastMany__1, .ref aKz, .int isKept, .ref aBuf, .int typed, .ref aStk, .ref aLaid, .int wid, .int hei, .ref aPcs, .ref aTold, .int toldMany, .int spot, .int wrong])), (aZ, .inl (cI, 207, .inl zz__4)), (aPast, .inl (cI, 1035, .inl past__2)), (aPcs, .inl (cI, 64, .inl pcs__6))]) [1, 2, 0, 3] (by decide) rfl
      generalize H1 = H at hP hS ⊢
      exact hret _ _ _ _ _ _ _ _ _ dX6_aimHere_38 hP hD hS hq
    · have hq := hq.2 hc
      refine lv_aload_n hx hb dX6_aimHere_12 rfl (lv_at hl 0 rfl) ?_
      refine va_get (D := (dC, dI)) (ci := 5) (v := .ref aZ) (C := RX6) (T := TX6) (N := 16) hx hb hts iwX6_aimHere_X6 hown hK hP 0 rfl rfl 0 (by decide) (hts _ kwX6_aimHere_7) (fun _ h9 => h9) rfl dX6_aimHere_13 ?_
      refine lv_sipush (v := 199) hx hb dX6_aimHere_16 (by decide) ?_
      refine lv_iload_n hx hb dX6_aimHere_19 rfl (lv_at hl 1 rfl) ?_
      refine lv_iadd hx hb dX6_aimHere_20 ?_
      refine lv_aload_n hx hb dX6_aimHere_21 rfl (lv_at hl 0 rfl) ?_
      refine lv_iload_n hx hb dX6_aimHere_22 rfl (lv_at hl 1 rfl) ?_
      have hPc := hP.sub (ws' := [(aM, .inr (5, [.ref aZ, .ref aPast, .int pastMany__1, .ref aKz, .int isKept, .ref aBuf, .int typed, .ref aStk, .ref aLaid, .int wid, .int hei, .ref aPcs, .ref aTold, .int toldMany, .int spot, .int wrong])), (aZ, .inl (cI, 207, .inl zz__4))]) [0, 1] rfl
      have hDc := hD.sub (ws' := [(aM, .inr (5, [.ref aZ, .ref aPast, .int pastMany__1, .ref aKz, .int isKept, .ref aBuf, .int typed, .ref aStk, .ref aLaid, .int wid, .int hei, .ref aPcs, .ref aTold, .int toldMany, .int spot, .int wrong])), (aZ, .inl (cI, 207, .inl zz__4))]) [0, 1] (by decide) rfl
      have hFc := va_free (wc := [(aM, .inr (5, [.ref aZ, .ref aPast, .int pastMany__1, .ref aKz, .int isKept, .ref aBuf, .int typed, .ref aStk, .ref aLaid, .int wid, .int hei, .ref aPcs, .ref aTold, .int toldMany, .int spot, .int wrong])), (aZ, .inl (cI, 207, .inl zz__4))]) hD hS hA [0, 1] rfl
      refine va_calli (va_runV (As := [.int v1_3]) (rest := [.int ((199 : Int32) + v1_3), .ref aZ]) ⟨hx, hb, hml, hown, hts⟩ (c_X6_holes l dC dI cI cC cS aM aZ aPast aKz aBuf aStk aLaid aPcs aTold _ pastMany__1 isKept typed wid hei toldMany spot wrong zz__4 v1_3 hq) (cwV 1 hts gX6_aimHere_X6_holes rfl rfl rfl (by decide +kernel) ⟨Nat.le_of_ble_eq_true rfl, Nat.le_of_ble_eq_true rfl⟩) (gn_preV hPc hK hN hDc (ci := 5) (q0 := 0) rfl rfl) rfl rfl hl.1 rfl (lv_room (Nat.le_of_ble_eq_true rfl)) dX6_aimHere_23 ⟨Nat.zero_le _, Nat.zero_le _⟩) hS (fun q _ h => hFc q h) hFc (fun r_7 u t H1 locs ht hvm hq hB hz1 hk1 hS => ?_)
      obtain ⟨hP1, hK1, hD1⟩ := hB
      rw [ht] at hP1
      try dsimp only at hq
      obtain ⟨hP, hD⟩ := va_join (wr := [(aPast, .inl (cI, 1035, .inl past__2)), (aPcs, .inl (cI, 64, .inl pcs))]) (w1 := [(aM, .inr (5, [.ref aZ, .ref aPast, .int pastMany__1, .ref aKz, .int isKept, .ref aBuf, .int typed, .ref aStk, .ref aLaid, .int wid, .int hei, .ref aPcs, .ref aTold, .int toldMany, .int spot, .int wrong])), (aZ, .inl (cI, 207, .inl zz__4))]) hP hD [0, 1] [2, 3] rfl rfl (by decide) (by decide) hk1 hFc hP1 hD1
      have hP := hP.sub (ws' := [(aM, .inr (5, [.ref aZ, .ref aPast, .int pastMany__1, .ref aKz, .int isKept, .ref aBuf, .int typed, .ref aStk, .ref aLaid, .int wid, .int hei, .ref aPcs, .ref aTold, .int toldMany, .int spot, .int wrong])), (aZ, .inl (cI, 207, .inl zz__4)), (aPast, .inl (cI, 1035, .inl past__2)), (aPcs, .inl (cI, 64, .inl pcs))]) [2, 3, 0, 1] rfl
      have hD := hD.sub (ws' := [(aM, .inr (5, [.ref aZ, .ref aPast, .int pastMany__1, .ref aKz, .int isKept, .ref aBuf, .int typed, .ref aStk, .ref aLaid, .int wid, .int hei, .ref aPcs, .ref aTold, .int toldMany, .int spot, .int wrong])), (aZ, .inl (cI, 207, .inl zz__4)), (aPast, .inl (cI, 1035, .inl past__2)), (aPcs, .inl (cI, 64, .inl pcs))]) [2, 3, 0, 1] (by decide) rfl
      generalize H1 = H at hP hS ⊢
      have hin := hq.1
      have hq := hq.2
      refine va_iast hx hb hK hP hD hS 1 0 rfl rfl hin dX6_aimHere_26 (fun H locs hP hD hS => ?_)
      have hP : va_P (dC, dI) vwCl [(aM, .inr (5, [.ref aZ, .ref aPast, .int pastMany__1, .ref aKz, .int isKept, .ref aBuf, .int typed, .ref aStk, .ref aLaid, .int wid, .int hei, .ref aPcs, .ref aTold, .int toldMany, .int spot, .int wrong])), (aZ, .inl (cI, 207, .inl (upd zz__4 (((199 : Int32) + v1_3)).toNatClampNeg r_7))), (aPast, .inl (cI, 1035, .inl past__2)), (aPcs, .inl (cI, 64, .inl pcs))] H := hP
      have hD : va_D A [(aM, .inr (5, [.ref aZ, .ref aPast, .int pastMany__1, .ref aKz, .int isKept, .ref aBuf, .int typed, .ref aStk, .ref aLaid, .int wid, .int hei, .ref aPcs, .ref aTold, .int toldMany, .int spot, .int wrong])), (aZ, .inl (cI, 207, .inl (upd zz__4 (((199 : Int32) + v1_3)).toNatClampNeg r_7))), (aPast, .inl (cI, 1035, .inl past__2)), (aPcs, .inl (cI, 64, .inl pcs))] := hD
      refine lv_iinc (v := (v1_3 + (1 : Int32))) (lv' := [(1, .int (v1_3 + (1 : Int32))), (0, .ref aM)]) hx hb dX6_aimHere_27 hl (k := 1) rfl rfl (by decide) rfl (fun ls hl => ?_)
      refine lv_goto (tgt := 6) hx hb dX6_aimHere_30 (by decide) ?_
      exact hq _ _ _ hP hD hS (lv_sub hl [1, 0] rfl))
  exact hq _ _ _ hP hD hS (lv_sub hl [1, 0] rfl)
set_option maxRecDepth 20000 in
theorem kwX6_target_7 : Cond.fieldLink RX6 7 "PunchedFoldsModel" "z" "[I" ∈ wsX6_target := by decide +kernel
set_option maxRecDepth 20000 in
theorem iwX6_target_X6 : ∀ w ∈ wsX60, w ∈ wsX6_target := by decide +kernel
set_option maxHeartbeats 4000000 in
set_option maxRecDepth 100000 in
theorem c_X6_target (l : Launch) (dC : Nat → ClassId) (dI : Nat → Nat → Nat) (cI cC cS : ClassId) (aM : Nat) (aZ : Nat) (aPast : Nat) (aKz : Nat) (aBuf : Nat) (aStk : Nat) (aLaid : Nat) (aPcs : Nat) (aTold : Nat) (sz : Nat) (pastMany : Int32) (isKept : Int32) (typed : Int32) (wid : Int32) (hei : Int32) (toldMany : Int32) (spot : Int32) (wrong : Int32) (zz : Nat → Int32) (x1 : Int32) {post : Int32 → Prop} (hq : wp_X6_target zz x1 post) : Met l yX6_target wsX6_target ({ frames := 1, cells := 0, slots := 0, locals := 22 } : Room) (gn_Pre (dC, dI) cI cC cS [.ref aM, .int x1] sz [(aM, .inr (5, [.ref aZ, .ref aPast, .int pastMany, .ref aKz, .int isKept, .ref aBuf, .int typed, .ref aStk, .ref aLaid, .int wid, .int hei, .ref aPcs, .ref aTold, .int toldMany, .int spot, .int wrong])), (aZ, .inl (cI, 207, .inl zz))]) (va_Qi (fun (r : Int32) (u : Unit) => post r) (fun (u : Unit) t => va_P (dC, dI) vwCl [(aM, .inr (5, [.ref aZ, .ref aPast, .int pastMany, .ref aKz, .int isKept, .ref aBuf, .int typed, .ref aStk, .ref aLaid, .int wid, .int hei, .ref aPcs, .ref aTold, .int toldMany, .int spot, .int wrong])), (aZ, .inl (cI, 207, .inl zz))] t.heap ∧ va_K (dC, dI) vwCl (gn_tys cI cC cS) t ∧ va_D (va_A [(aM, .inr (5, [.ref aZ, .ref aPast, .int pastMany, .ref aKz, .int isKept, .ref aBuf, .int typed, .ref aStk, .ref aLaid, .int wid, .int hei, .ref aPcs, .ref aTold, .int toldMany, .int spot, .int wrong])), (aZ, .inl (cI, 207, .inl zz))] sz) [(aM, .inr (5, [.ref aZ, .ref aPast, .int pastMany, .ref aKz, .int isKept, .ref aBuf, .int typed, .ref aStk, .ref aLaid, .int wid, .int hei, .ref aPcs, .ref aTold, .int toldMany, .int spot, .int wrong])), (aZ, .inl (cI, 207, .inl zz))]) (va_A [(aM, .inr (5, [.ref aZ, .ref aPast, .int pastMany, .ref aKz, .int isKept, .ref aBuf, .int typed, .ref aStk, .ref aLaid, .int wid, .int hei, .ref aPcs, .ref aTold, .int toldMany, .int spot, .int wrong])), (aZ, .inl (cI, 207, .inl zz))] sz)) 0 0 (va_A [(aM, .inr (5, [.ref aZ, .ref aPast, .int pastMany, .ref aKz, .int isKept, .ref aBuf, .int typed, .ref aStk, .ref aLaid, .int wid, .int hei, .ref aPcs, .ref aTold, .int toldMany, .int spot, .int wrong])), (aZ, .inl (cI, 207, .inl zz))] sz) := by
  unfold wp_X6_target at hq
  refine Met.ofW (cc := cX6_target) (maxL := 2) (ret := (some .int)) (by decide) rfl ?_
  intro p e s m args below meth c s₁ B hml hv
  obtain ⟨rfl, hsz, hP, hK, hN, hD0⟩ := hv
  have hx := B.exec
  have hb := B.bytes
  have hr := B.returns
  have hts := atoms_spec (ws := wsX6_target) B.pre
  have hown : s.vm.findClass RX6 = some m.cls := findClass_of_methodNamed B.named
  have hlocks := B.notSynchronized
  subst hsz
  have hD := hD0.self (sz := s.heap.size)
  generalize hAe : va_A [(aM, .inr (5, [.ref aZ, .ref aPast, .int pastMany, .ref aKz, .int isKept, .ref aBuf, .int typed, .ref aStk, .ref aLaid, .int wid, .int hei, .ref aPcs, .ref aTold, .int toldMany, .int spot, .int wrong])), (aZ, .inl (cI, 207, .inl zz))] s.heap.size = A at hD ⊢
  have hA : ∀ q : Nat, s.heap.size ≤ q → A q := fun q h => by rw [← hAe]; exact Or.inr h
  have hS : va_S A s.heap s.heap [] := va_S.rf
  have hl := lv_entry ([.ref aM, .int x1] : List Value) (n := 2) (Nat.le_of_ble_eq_true rfl)
  rw [lg_entry_eq]
  generalize (lg_sl ([.ref aM, .int x1] : List Value) ++ List.replicate (2 - (lg_sl ([.ref aM, .int x1] : List Value)).length) Slot.unset).toArray = ls at hl ⊢
  have hl : lv_has ls 2 [(0, .ref aM), (1, .int x1)] := hl
  refine gn_Q (hret := fun Q => ∀ (pc : Nat) (ls : Array Slot) (H : Heap) (locs : List Loc) (r : Int32) , decode cX6_target pc = .ok (.ireturn, 1) → va_P (dC, dI) vwCl [(aM, .inr (5, [.ref aZ, .ref aPast, .int pastMany, .ref aKz, .int isKept, .ref aBuf, .int typed, .ref aStk, .ref aLaid, .int wid, .int hei, .ref aPcs, .ref aTold, .int toldMany, .int spot, .int wrong])), (aZ, .inl (cI, 207, .inl zz))] H → va_D A [(aM, .inr (5, [.ref aZ, .ref aPast, .int pastMany, .ref aKz, .int isKept, .ref aBuf, .int typed, .ref aStk, .ref aLaid, .int wid, .int hei, .ref aPcs, .ref aTold, .int toldMany, .int spot, .int wrong])), (aZ, .inl (cI, 207, .inl zz))] → va_S A s.heap H locs → post r → W p l e ({ frames := 1, cells := 0, slots := 0, locals := 22 } : Room) s m ([.ref aM, .int x1] : List Value).toArray below meth c H locs 0 0 Q (F0 m pc ls [.int r])) (fun Q hret => ?_) ?_
  rotate_left
  · intro pc ls H locs r hdg hP hD hS hpost
    exact W.iret (v := r) hx hb hr (fun t ht hW => ⟨⟨r, (), rfl, hpost, by rw [ht]; exact hP, va_K.moved hW.alike hK, hD⟩, hS.F ht⟩) hS.2.2 hdg
  refine lv_iload_n hx hb dX6_target_0 rfl (lv_at hl 1 rfl) ?_
  refine lv_iconst (v := 0) hx hb dX6_target_1 (by decide) ?_
  refine lv_bipush (v := 7) hx hb dX6_target_2 (by decide) ?_
  have hPc := hP.sub (ws' := []) [] rfl
  have hDc := hD.sub (ws' := []) [] (by decide) rfl
  have hFc := va_free (wc := []) hD hS hA [] rfl
  refine va_calli (va_runS (As := [.int x1, .int (0 : Int32), .int (7 : Int32)]) (rest := []) ⟨hx, hb, hml, hown, hts⟩ (c_X6_in l dC dI cI cC cS _ x1 (0 : Int32) (7 : Int32) hq) (va_cwS 3 hts gX6_target_X6_in rfl rfl rfl (by decide +kernel) ⟨Nat.le_of_ble_eq_true rfl, Nat.le_of_ble_eq_true rfl⟩) (gn_preS hPc hK hN hDc) rfl rfl hl.1 rfl (lv_room (Nat.le_of_ble_eq_true rfl)) dX6_target_4 ⟨Nat.zero_le _, Nat.zero_le _⟩) hS (fun q _ h => hFc q h) hFc (fun r_1 u t H1 locs ht hvm hq hB hz1 hk1 hS => ?_)
  obtain ⟨hP1, hK1, hD1⟩ := hB
  rw [ht] at hP1
  try dsimp only at hq
  obtain ⟨hP, hD⟩ := va_join (wr := [(aM, .inr (5, [.ref aZ, .ref aPast, .int pastMany, .ref aKz, .int isKept, .ref aBuf, .int typed, .ref aStk, .ref aLaid, .int wid, .int hei, .ref aPcs, .ref aTold, .int toldMany, .int spot, .int wrong])), (aZ, .inl (cI, 207, .inl zz))]) (w1 := []) hP hD [] [0, 1] rfl rfl (by decide) (by decide) hk1 hFc hP1 hD1
  have hP := hP.sub (ws' := [(aM, .inr (5, [.ref aZ, .ref aPast, .int pastMany, .ref aKz, .int isKept, .ref aBuf, .int typed, .ref aStk, .ref aLaid, .int wid, .int hei, .ref aPcs, .ref aTold, .int toldMany, .int spot, .int wrong])), (aZ, .inl (cI, 207, .inl zz))]) [0, 1] rfl
  have hD := hD.sub (ws' := [(aM, .inr (5, [.ref aZ, .ref aPast, .int pastMany, .ref aKz, .int isKept, .ref aBuf, .int typed, .ref aStk, .ref aLaid, .int wid, .int hei, .ref aPcs, .ref aTold, .int toldMany, .int spot, .int wrong])), (aZ, .inl (cI, 207, .inl zz))]) [0, 1] (by decide) rfl
  generalize H1 = H at hP hS ⊢
  refine lv_if_eq (tgt := 23) hx hb dX6_target_7 (by decide) (fun hc => ?_) (fun hc => ?_)
  · have hq := hq.1 hc
    refine lv_iconst (v := -1) hx hb dX6_target_23 (by decide) ?_
    exact hret _ _ _ _ _ dX6_target_24 hP hD hS hq
  · have hq := hq.2 hc
    refine lv_aload_n hx hb dX6_target_10 rfl (lv_at hl 0 rfl) ?_
    refine va_get (D := (dC, dI)) (ci := 5) (v := .ref aZ) (C := RX6) (T := TX6) (N := 16) hx hb hts iwX6_target_X6 hown hK hP 0 rfl rfl 0 (by decide) (hts _ kwX6_target_7) (fun _ h9 => h9) rfl dX6_target_11 ?_
    refine lv_sipush (v := 199) hx hb dX6_target_14 (by decide) ?_
    refine lv_iload_n hx hb dX6_target_17 rfl (lv_at hl 1 rfl) ?_
    refine lv_iadd hx hb dX6_target_18 ?_
    have hin := hq.1
    have hq := hq.2
    refine va_iald hx hb hK hP 1 0 rfl rfl hin dX6_target_19 ?_
    refine lv_goto (tgt := 24) hx hb dX6_target_20 (by decide) ?_
    exact hret _ _ _ _ _ dX6_target_24 hP hD hS hq
set_option maxRecDepth 20000 in
theorem kwX6_fieldsWanted_46 : Cond.fieldLink RX6 46 "PunchedFoldsModel" "width" "I" ∈ wsX6_fieldsWanted := by decide +kernel
set_option maxRecDepth 20000 in
theorem iwX6_fieldsWanted_X6 : ∀ w ∈ wsX60, w ∈ wsX6_fieldsWanted := by decide +kernel
set_option maxRecDepth 20000 in
theorem kwX6_fieldsWanted_49 : Cond.fieldLink RX6 49 "PunchedFoldsModel" "height" "I" ∈ wsX6_fieldsWanted := by decide +kernel
set_option maxRecDepth 20000 in
theorem kwX6_fieldsWanted_23 : Cond.fieldLink RX6 23 "PunchedFoldsModel" "stacks" "[I" ∈ wsX6_fieldsWanted := by decide +kernel
set_option maxHeartbeats 4000000 in
set_option maxRecDepth 100000 in
theorem c_X6_fieldsWanted (l : Launch) (dC : Nat → ClassId) (dI : Nat → Nat → Nat) (cI cC cS : ClassId) (aM : Nat) (aZ : Nat) (aPast : Nat) (aKz : Nat) (aBuf : Nat) (aStk : Nat) (aLaid : Nat) (aPcs : Nat) (aTold : Nat) (sz : Nat) (pastMany : Int32) (isKept : Int32) (typed : Int32) (wid : Int32) (hei : Int32) (toldMany : Int32) (spot : Int32) (wrong : Int32) (zz : Nat → Int32) (stk : Nat → Int32) {post : Int32 → Prop} (hq : wp_X6_fieldsWanted wid hei zz stk post) : Met l yX6_fieldsWanted wsX6_fieldsWanted ({ frames := 1, cells := 0, slots := 0, locals := 21 } : Room) (gn_Pre (dC, dI) cI cC cS [.ref aM] sz [(aM, .inr (5, [.ref aZ, .ref aPast, .int pastMany, .ref aKz, .int isKept, .ref aBuf, .int typed, .ref aStk, .ref aLaid, .int wid, .int hei, .ref aPcs, .ref aTold, .int toldMany, .int spot, .int wrong])), (aZ, .inl (cI, 207, .inl zz)), (aStk, .inl (cI, 64, .inl stk))]) (va_Qi (fun (r : Int32) (u : Unit) => post r) (fun (u : Unit) t => va_P (dC, dI) vwCl [(aM, .inr (5, [.ref aZ, .ref aPast, .int pastMany, .ref aKz, .int isKept, .ref aBuf, .int typed, .ref aStk, .ref aLaid, .int wid, .int hei, .ref aPcs, .ref aTold, .int toldMany, .int spot, .int wrong])), (aZ, .inl (cI, 207, .inl zz)), (aStk, .inl (cI, 64, .inl stk))] t.heap ∧ va_K (dC, dI) vwCl (gn_tys cI cC cS) t ∧ va_D (va_A [(aM, .inr (5, [.ref aZ, .ref aPast, .int pastMany, .ref aKz, .int isKept, .ref aBuf, .int typed, .ref aStk, .ref aLaid, .int wid, .int hei, .ref aPcs, .ref aTold, .int toldMany, .int spot, .int wrong])), (aZ, .inl (cI, 207, .inl zz)), (aStk, .inl (cI, 64, .inl stk))] sz) [(aM, .inr (5, [.ref aZ, .ref aPast, .int pastMany, .ref aKz, .int isKept, .ref aBuf, .int typed, .ref aStk, .ref aLaid, .int wid, .int hei, .ref aPcs, .ref aTold, .int toldMany, .int spot, .int wrong])), (aZ, .inl (cI, 207, .inl zz)), (aStk, .inl (cI, 64, .inl stk))]) (va_A [(aM, .inr (5, [.ref aZ, .ref aPast, .int pastMany, .ref aKz, .int isKept, .ref aBuf, .int typed, .ref aStk, .ref aLaid, .int wid, .int hei, .ref aPcs, .ref aTold, .int toldMany, .int spot, .int wrong])), (aZ, .inl (cI, 207, .inl zz)), (aStk, .inl (cI, 64, .inl stk))] sz)) 0 0 (va_A [(aM, .inr (5, [.ref aZ, .ref aPast, .int pastMany, .ref aKz, .int isKept, .ref aBuf, .int typed, .ref aStk, .ref aLaid, .int wid, .int hei, .ref aPcs, .ref aTold, .int toldMany, .int spot, .int wrong])), (aZ, .inl (cI, 207, .inl zz)), (aStk, .inl (cI, 64, .inl stk))] sz) := by
  unfold wp_X6_fieldsWanted at hq
  refine Met.ofW (cc := cX6_fieldsWanted) (maxL := 6) (ret := (some .int)) (by decide) rfl ?_
  intro p e s m args below meth c s₁ B hml hv
  obtain ⟨rfl, hsz, hP, hK, hN, hD0⟩ := hv
  have hx := B.exec
  have hb := B.bytes
  have hr := B.returns
  have hts := atoms_spec (ws := wsX6_fieldsWanted) B.pre
  have hown : s.vm.findClass RX6 = some m.cls := findClass_of_methodNamed B.named
  have hlocks := B.notSynchronized
  subst hsz
  have hD := hD0.self (sz := s.heap.size)
  generalize hAe : va_A [(aM, .inr (5, [.ref aZ, .ref aPast, .int pastMany, .ref aKz, .int isKept, .ref aBuf, .int typed, .ref aStk, .ref aLaid, .int wid, .int hei, .ref aPcs, .ref aTold, .int toldMany, .int spot, .int wrong])), (aZ, .inl (cI, 207, .inl zz)), (aStk, .inl (cI, 64, .inl stk))] s.heap.size = A at hD ⊢
  have hA : ∀ q : Nat, s.heap.size ≤ q → A q := fun q h => by rw [← hAe]; exact Or.inr h
  have hS : va_S A s.heap s.heap [] := va_S.rf
  have hl := lv_entry ([.ref aM] : List Value) (n := 6) (Nat.le_of_ble_eq_true rfl)
  rw [lg_entry_eq]
  generalize (lg_sl ([.ref aM] : List Value) ++ List.replicate (6 - (lg_sl ([.ref aM] : List Value)).length) Slot.unset).toArray = ls at hl ⊢
  have hl : lv_has ls 6 [(0, .ref aM)] := hl
  refine gn_Q (hret := fun Q => ∀ (pc : Nat) (ls : Array Slot) (H : Heap) (locs : List Loc) (r : Int32) , decode cX6_fieldsWanted pc = .ok (.ireturn, 1) → va_P (dC, dI) vwCl [(aM, .inr (5, [.ref aZ, .ref aPast, .int pastMany, .ref aKz, .int isKept, .ref aBuf, .int typed, .ref aStk, .ref aLaid, .int wid, .int hei, .ref aPcs, .ref aTold, .int toldMany, .int spot, .int wrong])), (aZ, .inl (cI, 207, .inl zz)), (aStk, .inl (cI, 64, .inl stk))] H → va_D A [(aM, .inr (5, [.ref aZ, .ref aPast, .int pastMany, .ref aKz, .int isKept, .ref aBuf, .int typed, .ref aStk, .ref aLaid, .int wid, .int hei, .ref aPcs, .ref aTold, .int toldMany, .int spot, .int wrong])), (aZ, .inl (cI, 207, .inl zz)), (aStk, .inl (cI, 64, .inl stk))] → va_S A s.heap H locs → post r → W p l e ({ frames := 1, cells := 0, slots := 0, locals := 21 } : Room) s m ([.ref aM] : List Value).toArray below meth c H locs 0 0 Q (F0 m pc ls [.int r])) (fun Q hret => ?_) ?_
  rotate_left
  · intro pc ls H locs r hdg hP hD hS hpost
    exact W.iret (v := r) hx hb hr (fun t ht hW => ⟨⟨r, (), rfl, hpost, by rw [ht]; exact hP, va_K.moved hW.alike hK, hD⟩, hS.F ht⟩) hS.2.2 hdg
  refine lv_aload_n hx hb dX6_fieldsWanted_0 rfl (lv_at hl 0 rfl) ?_
  have hPc := hP.sub (ws' := [(aM, .inr (5, [.ref aZ, .ref aPast, .int pastMany, .ref aKz, .int isKept, .ref aBuf, .int typed, .ref aStk, .ref aLaid, .int wid, .int hei, .ref aPcs, .ref aTold, .int toldMany, .int spot, .int wrong]))]) [0] rfl
  have hDc := hD.sub (ws' := [(aM, .inr (5, [.ref aZ, .ref aPast, .int pastMany, .ref aKz, .int isKept, .ref aBuf, .int typed, .ref aStk, .ref aLaid, .int wid, .int hei, .ref aPcs, .ref aTold, .int toldMany, .int spot, .int wrong]))]) [0] (by decide) rfl
  have hFc := va_free (wc := [(aM, .inr (5, [.ref aZ, .ref aPast, .int pastMany, .ref aKz, .int isKept, .ref aBuf, .int typed, .ref aStk, .ref aLaid, .int wid, .int hei, .ref aPcs, .ref aTold, .int toldMany, .int spot, .int wrong]))]) hD hS hA [0] rfl
  refine va_calli (va_runV (As := []) (rest := []) ⟨hx, hb, hml, hown, hts⟩ (c_X6_layers l dC dI cI cC cS aM aZ aPast aKz aBuf aStk aLaid aPcs aTold _ pastMany isKept typed wid hei toldMany spot wrong hq) (cwV 0 hts gX6_fieldsWanted_X6_layers rfl rfl rfl (by decide +kernel) ⟨Nat.le_of_ble_eq_true rfl, Nat.le_of_ble_eq_true rfl⟩) (gn_preV hPc hK hN hDc (ci := 5) (q0 := 0) rfl rfl) rfl rfl hl.1 rfl (lv_room (Nat.le_of_ble_eq_true rfl)) dX6_fieldsWanted_1 ⟨Nat.zero_le _, Nat.zero_le _⟩) hS (fun q _ h => hFc q h) hFc (fun r_1 u t H1 locs ht hvm hq hB hz1 hk1 hS => ?_)
  obtain ⟨hP1, hK1, hD1⟩ := hB
  rw [ht] at hP1
  try dsimp only at hq
  obtain ⟨hP, hD⟩ := va_join (wr := [(aZ, .inl (cI, 207, .inl zz)), (aStk, .inl (cI, 64, .inl stk))]) (w1 := [(aM, .inr (5, [.ref aZ, .ref aPast, .int pastMany, .ref aKz, .int isKept, .ref aBuf, .int typed, .ref aStk, .ref aLaid, .int wid, .int hei, .ref aPcs, .ref aTold, .int toldMany, .int spot, .int wrong]))]) hP hD [0] [1, 2] rfl rfl (by decide) (by decide) hk1 hFc hP1 hD1
  have hP := hP.sub (ws' := [(aM, .inr (5, [.ref aZ, .ref aPast, .int pastMany, .ref aKz, .int isKept, .ref aBuf, .int typed, .ref aStk, .ref aLaid, .int wid, .int hei, .ref aPcs, .ref aTold, .int toldMany, .int spot, .int wrong])), (aZ, .inl (cI, 207, .inl zz)), (aStk, .inl (cI, 64, .inl stk))]) [2, 0, 1] rfl
  have hD := hD.sub (ws' := [(aM, .inr (5, [.ref aZ, .ref aPast, .int pastMany, .ref aKz, .int isKept, .ref aBuf, .int typed, .ref aStk, .ref aLaid, .int wid, .int hei, .ref aPcs, .ref aTold, .int toldMany, .int spot, .int wrong])), (aZ, .inl (cI, 207, .inl zz)), (aStk, .inl (cI, 64, .inl stk))]) [2, 0, 1] (by decide) rfl
  generalize H1 = H at hP hS ⊢
  refine lv_istore_n (lv' := [(1, .int r_1), (0, .ref aM)]) hx hb dX6_fieldsWanted_4 rfl hl (by decide) rfl (fun ls hl => ?_)
  refine lv_iconst (v := 0) hx hb dX6_fieldsWanted_5 (by decide) ?_
  refine lv_istore_n (lv' := [(2, .int (0 : Int32)), (1, .int r_1), (0, .ref aM)]) hx hb dX6_fieldsWanted_6 rfl hl (by decide) rfl (fun ls hl => ?_)
  refine lv_iconst (v := 0) hx hb dX6_fieldsWanted_7 (by decide) ?_
  refine lv_istore_n (lv' := [(3, .int (0 : Int32)), (2, .int (0 : Int32)), (1, .int r_1), (0, .ref aM)]) hx hb dX6_fieldsWanted_8 rfl hl (by decide) rfl (fun ls hl => ?_)
  have hq := hq (fun (v2_2 : Int32) (v3_3 : Int32) => ∀ (H : Heap) (locs : List Loc) (ls : Array Slot), va_P (dC, dI) vwCl [(aM, .inr (5, [.ref aZ, .ref aPast, .int pastMany, .ref aKz, .int isKept, .ref aBuf, .int typed, .ref aStk, .ref aLaid, .int wid, .int hei, .ref aPcs, .ref aTold, .int toldMany, .int spot, .int wrong])), (aZ, .inl (cI, 207, .inl zz)), (aStk, .inl (cI, 64, .inl stk))] H → va_D A [(aM, .inr (5, [.ref aZ, .ref aPast, .int pastMany, .ref aKz, .int isKept, .ref aBuf, .int typed, .ref aStk, .ref aLaid, .int wid, .int hei, .ref aPcs, .ref aTold, .int toldMany, .int spot, .int wrong])), (aZ, .inl (cI, 207, .inl zz)), (aStk, .inl (cI, 64, .inl stk))] → va_S A s.heap H locs → lv_has ls 6 [(0, .ref aM), (1, .int r_1), (2, .int v2_2), (3, .int v3_3)] → W p l e ({ frames := 1, cells := 0, slots := 0, locals := 21 } : Room) s m ([.ref aM] : List Value).toArray below meth c H locs 0 0 Q (F0 m 9 ls [])) (by
    intro v2_2 v3_3 hq H locs ls hP hD hS hl
    refine lv_iload_n hx hb dX6_fieldsWanted_9 rfl (lv_at hl 3 rfl) ?_
    refine lv_aload_n hx hb dX6_fieldsWanted_10 rfl (lv_at hl 0 rfl) ?_
    refine va_get (D := (dC, dI)) (ci := 5) (v := .int wid) (C := RX6) (T := TX6) (N := 16) hx hb hts iwX6_fieldsWanted_X6 hown hK hP 0 rfl rfl 9 (by decide) (hts _ kwX6_fieldsWanted_46) (fun _ h9 => h9) rfl dX6_fieldsWanted_11 ?_
    refine lv_aload_n hx hb dX6_fieldsWanted_14 rfl (lv_at hl 0 rfl) ?_
    refine va_get (D := (dC, dI)) (ci := 5) (v := .int hei) (C := RX6) (T := TX6) (N := 16) hx hb hts iwX6_fieldsWanted_X6 hown hK hP 0 rfl rfl 10 (by decide) (hts _ kwX6_fieldsWanted_49) (fun _ h9 => h9) rfl dX6_fieldsWanted_15 ?_
    refine lv_imul hx hb dX6_fieldsWanted_18 ?_
    refine lv_icmp_ge (tgt := 95) hx hb dX6_fieldsWanted_19 (by decide) (fun hc => ?_) (fun hc => ?_)
    · have hq := hq.1 hc
      refine lv_iload_n hx hb dX6_fieldsWanted_95 rfl (lv_at hl 2 rfl) ?_
      exact hret _ _ _ _ _ dX6_fieldsWanted_96 hP hD hS hq
    · have hq := hq.2 hc
      refine lv_iconst (v := 0) hx hb dX6_fieldsWanted_22 (by decide) ?_
      refine lv_istore (lv' := [(4, .int (0 : Int32)), (0, .ref aM), (1, .int r_1), (2, .int v2_2), (3, .int v3_3)]) hx hb dX6_fieldsWanted_23 hl (by decide) rfl (fun ls hl => ?_)
      refine lv_iconst (v := 0) hx hb dX6_fieldsWanted_25 (by decide) ?_
      refine lv_istore (lv' := [(5, .int (0 : Int32)), (4, .int (0 : Int32)), (0, .ref aM), (1, .int r_1), (2, .int v2_2), (3, .int v3_3)]) hx hb dX6_fieldsWanted_26 hl (by decide) rfl (fun ls hl => ?_)
      have hq := hq (fun (v4_4 : Int32) (v5_5 : Int32) => ∀ (H : Heap) (locs : List Loc) (ls : Array Slot), va_P (dC, dI) vwCl [(aM, .inr (5, [.ref aZ, .ref aPast, .int pastMany, .ref aKz, .int isKept, .ref aBuf, .int typed, .ref aStk, .ref aLaid, .int wid, .int hei, .ref aPcs, .ref aTold, .int toldMany, .int spot, .int wrong])), (aZ, .inl (cI, 207, .inl zz)), (aStk, .inl (cI, 64, .inl stk))] H → va_D A [(aM, .inr (5, [.ref aZ, .ref aPast, .int pastMany, .ref aKz, .int isKept, .ref aBuf, .int typed, .ref aStk, .ref aLaid, .int wid, .int hei, .ref aPcs, .ref aTold, .int toldMany, .int spot, .int wrong])), (aZ, .inl (cI, 207, .inl zz)), (aStk, .inl (cI, 64, .inl stk))] → va_S A s.heap H locs → lv_has ls 6 [(0, .ref aM), (1, .int r_1), (2, .int v2_2), (3, .int v3_3), (4, .int v4_4), (5, .int v5_5)] → W p l e ({ frames := 1, cells := 0, slots := 0, locals := 21 } : Room) s m ([.ref aM] : List Value).toArray below meth c H locs 0 0 Q (F0 m 28 ls [])) (by
        intro v4_4 v5_5 hq H locs ls hP hD hS hl
        refine lv_iload hx hb dX6_fieldsWanted_28 (lv_at hl 5 rfl) ?_
        refine lv_iload_n hx hb dX6_fieldsWanted_30 rfl (lv_at hl 1 rfl) ?_
        refine lv_icmp_ge (tgt := 62) hx hb dX6_fieldsWanted_31 (by decide) (fun hc => ?_) (fun hc => ?_)
        · have hq := hq.1 hc
          refine lv_iload hx hb dX6_fieldsWanted_62 (lv_at hl 4 rfl) ?_
          have hq := hq (∀ (H : Heap) (locs : List Loc) (ls : Array Slot), va_P (dC, dI) vwCl [(aM, .inr (5, [.ref aZ, .ref aPast, .int pastMany, .ref aKz, .int isKept, .ref aBuf, .int typed, .ref aStk, .ref aLaid, .int wid, .int hei, .ref aPcs, .ref aTold, .int toldMany, .int spot, .int wrong])), (aZ, .inl (cI, 207, .inl zz)), (aStk, .inl (cI, 64, .inl stk))] H → va_D A [(aM, .inr (5, [.ref aZ, .ref aPast, .int pastMany, .ref aKz, .int isKept, .ref aBuf, .int typed, .ref aStk, .ref aLaid, .int wid, .int hei, .ref aPcs, .ref aTold, .int toldMany, .int spot, .int wrong])), (aZ, .inl (cI, 207, .inl zz)), (aStk, .inl (cI, 64, .inl stk))] → va_S A s.heap H locs → lv_has ls 6 [(0, .ref aM), (1, .int r_1), (2, .int v2_2), (3, .int v3_3), (4, .int v4_4)] → W p l e ({ frames := 1, cells := 0, slots := 0, locals := 21 } : Room) s m ([.ref aM] : List Value).toArray below meth c H locs 0 0 Q (F0 m 76 ls [])) (by
            intro  hq H locs ls hP hD hS hl
            refine lv_iload_n hx hb dX6_fieldsWanted_76 rfl (lv_at hl 2 rfl) ?_
            refine lv_iload hx hb dX6_fieldsWanted_77 (lv_at hl 4 rfl) ?_
            have hq := hq (fun (t_6 : Int32) => ∀ (H : Heap) (locs : List Loc) (ls : Array Slot), va_P (dC, dI) vwCl [(aM, .inr (5, [.ref aZ, .ref aPast, .int pastMany, .ref aKz, .int isKept, .ref aBuf, .int typed, .ref aStk, .ref aLaid, .int wid, .int hei, .ref aPcs, .ref aTold, .int toldMany, .int spot, .int wrong])), (aZ, .inl (cI, 207, .inl zz)), (aStk, .inl (cI, 64, .inl stk))] H → va_D A [(aM, .inr (5, [.ref aZ, .ref aPast, .int pastMany, .ref aKz, .int isKept, .ref aBuf, .int typed, .ref aStk, .ref aLaid, .int wid, .int hei, .ref aPcs, .ref aTold, .int toldMany, .int spot, .int wrong])), (aZ, .inl (cI, 207, .inl zz)), (aStk, .inl (cI, 64, .inl stk))] → va_S A s.heap H locs → lv_has ls 6 [(0, .ref aM), (1, .int r_1), (3, .int v3_3)] → W p l e ({ frames := 1, cells := 0, slots := 0, locals := 21 } : Room) s m ([.ref aM] : List Value).toArray below meth c H locs 0 0 Q (F0 m 87 ls [.int t_6, .int v2_2])) (by
              intro t_6 hq H locs ls hP hD hS hl
              refine lv_iadd hx hb dX6_fieldsWanted_87 ?_
              refine lv_topi (fun w2_7 ew2_7 => ?_)
              have hq := hq w2_7 ew2_7
              refine lv_istore_n (lv' := [(2, .int w2_7), (0, .ref aM), (1, .int r_1), (3, .int v3_3)]) hx hb dX6_fieldsWanted_88 rfl hl (by decide) rfl (fun ls hl => ?_)
              refine lv_iinc (v := (v3_3 + (1 : Int32))) (lv' := [(3, .int (v3_3 + (1 : Int32))), (2, .int w2_7), (0, .ref aM), (1, .int r_1)]) hx hb dX6_fieldsWanted_89 hl (k := 3) rfl rfl (by decide) rfl (fun ls hl => ?_)
              refine lv_goto (tgt := 9) hx hb dX6_fieldsWanted_92 (by decide) ?_
              exact hq _ _ _ hP hD hS (lv_sub hl [2, 3, 1, 0] rfl))
            refine lv_if_le (tgt := 86) hx hb dX6_fieldsWanted_79 (by decide) (fun hc => ?_) (fun hc => ?_)
            · have hq := hq.1 hc
              refine lv_iconst (v := 0) hx hb dX6_fieldsWanted_86 (by decide) ?_
              exact hq _ _ _ hP hD hS (lv_sub hl [0, 1, 3] rfl)
            · have hq := hq.2 hc
              refine lv_iconst (v := 1) hx hb dX6_fieldsWanted_82 (by decide) ?_
              refine lv_goto (tgt := 87) hx hb dX6_fieldsWanted_83 (by decide) ?_
              exact hq _ _ _ hP hD hS (lv_sub hl [0, 1, 3] rfl))
          refine lv_if_le (tgt := 76) hx hb dX6_fieldsWanted_64 (by decide) (fun hc => ?_) (fun hc => ?_)
          · have hq := hq.1 hc
            exact hq _ _ _ hP hD hS (lv_sub hl [0, 1, 2, 3, 4] rfl)
          · have hq := hq.2 hc
            refine lv_iload hx hb dX6_fieldsWanted_67 (lv_at hl 4 rfl) ?_
            refine lv_iload_n hx hb dX6_fieldsWanted_69 rfl (lv_at hl 1 rfl) ?_
            refine lv_icmp_ge (tgt := 76) hx hb dX6_fieldsWanted_70 (by decide) (fun hc => ?_) (fun hc => ?_)
            · have hq := hq.1 hc
              exact hq _ _ _ hP hD hS (lv_sub hl [0, 1, 2, 3, 4] rfl)
            · have hq := hq.2 hc
              refine lv_bipush (v := -6) hx hb dX6_fieldsWanted_73 (by decide) ?_
              exact hret _ _ _ _ _ dX6_fieldsWanted_75 hP hD hS hq
        · have hq := hq.2 hc
          refine lv_iload hx hb dX6_fieldsWanted_34 (lv_at hl 4 rfl) ?_
          refine lv_aload_n hx hb dX6_fieldsWanted_36 rfl (lv_at hl 0 rfl) ?_
          refine lv_aload_n hx hb dX6_fieldsWanted_37 rfl (lv_at hl 0 rfl) ?_
          refine va_get (D := (dC, dI)) (ci := 5) (v := .ref aStk) (C := RX6) (T := TX6) (N := 16) hx hb hts iwX6_fieldsWanted_X6 hown hK hP 0 rfl rfl 7 (by decide) (hts _ kwX6_fieldsWanted_23) (fun _ h9 => h9) rfl dX6_fieldsWanted_38 ?_
          refine lv_iload_n hx hb dX6_fieldsWanted_41 rfl (lv_at hl 3 rfl) ?_
          refine lv_iload_n hx hb dX6_fieldsWanted_42 rfl (lv_at hl 1 rfl) ?_
          refine lv_imul hx hb dX6_fieldsWanted_43 ?_
          refine lv_iload hx hb dX6_fieldsWanted_44 (lv_at hl 5 rfl) ?_
          refine lv_iadd hx hb dX6_fieldsWanted_46 ?_
          have hin := hq.1
          have hq := hq.2
          refine va_iald hx hb hK hP 2 0 rfl rfl hin dX6_fieldsWanted_47 ?_
          refine lv_iconst (v := 2) hx hb dX6_fieldsWanted_48 (by decide) ?_
          refine lv_idiv hx hb dX6_fieldsWanted_49 (by decide) ?_
          have hPc := hP.sub (ws' := [(aM, .inr (5, [.ref aZ, .ref aPast, .int pastMany, .ref aKz, .int isKept, .ref aBuf, .int typed, .ref aStk, .ref aLaid, .int wid, .int hei, .ref aPcs, .ref aTold, .int toldMany, .int spot, .int wrong])), (aZ, .inl (cI, 207, .inl zz))]) [0, 1] rfl
          have hDc := hD.sub (ws' := [(aM, .inr (5, [.ref aZ, .ref aPast, .int pastMany, .ref aKz, .int isKept, .ref aBuf, .int typed, .ref aStk, .ref aLaid, .int wid, .int hei, .ref aPcs, .ref aTold, .int toldMany, .int spot, .int wrong])), (aZ, .inl (cI, 207, .inl zz))]) [0, 1] (by decide) rfl
          have hFc := va_free (wc := [(aM, .inr (5, [.ref aZ, .ref aPast, .int pastMany, .ref aKz, .int isKept, .ref aBuf, .int typed, .ref aStk, .ref aLaid, .int wid, .int hei, .ref aPcs, .ref aTold, .int toldMany, .int spot, .int wrong])), (aZ, .inl (cI, 207, .inl zz))]) hD hS hA [0, 1] rfl
          refine va_calli (va_runV (As := [.int ((stk (((v3_3 * r_1) + v5_5)).toNatClampNeg) / (2 : Int32))]) (rest := [.int v4_4]) ⟨hx, hb, hml, hown, hts⟩ (c_X6_wanted l dC dI cI cC cS aM aZ aPast aKz aBuf aStk aLaid aPcs aTold _ pastMany isKept typed wid hei toldMany spot wrong zz ((stk (((v3_3 * r_1) + v5_5)).toNatClampNeg) / (2 : Int32)) hq) (cwV 1 hts gX6_fieldsWanted_X6_wanted rfl rfl rfl (by decide +kernel) ⟨Nat.le_of_ble_eq_true rfl, Nat.le_of_ble_eq_true rfl⟩) (gn_preV hPc hK hN hDc (ci := 5) (q0 := 0) rfl rfl) rfl rfl hl.1 rfl (lv_room (Nat.le_of_ble_eq_true rfl)) dX6_fieldsWanted_50 ⟨Nat.zero_le _, Nat.zero_le _⟩) hS (fun q _ h => hFc q h) hFc (fun r_8 u t H1 locs ht hvm hq hB hz1 hk1 hS => ?_)
          obtain ⟨hP1, hK1, hD1⟩ := hB
          rw [ht] at hP1
          try dsimp only at hq
          obtain ⟨hP, hD⟩ := va_join (wr := [(aStk, .inl (cI, 64, .inl stk))]) (w1 := [(aM, .inr (5, [.ref aZ, .ref aPast, .int pastMany, .ref aKz, .int isKept, .ref aBuf, .int typed, .ref aStk, .ref aLaid, .int wid, .int hei, .ref aPcs, .ref aTold, .int toldMany, .int spot, .int wrong])), (aZ, .inl (cI, 207, .inl zz))]) hP hD [0, 1] [2] rfl rfl (by decide) (by decide) hk1 hFc hP1 hD1
          have hP := hP.sub (ws' := [(aM, .inr (5, [.ref aZ, .ref aPast, .int pastMany, .ref aKz, .int isKept, .ref aBuf, .int typed, .ref aStk, .ref aLaid, .int wid, .int hei, .ref aPcs, .ref aTold, .int toldMany, .int spot, .int wrong])), (aZ, .inl (cI, 207, .inl zz)), (aStk, .inl (cI, 64, .inl stk))]) [1, 2, 0] rfl
          have hD := hD.sub (ws' := [(aM, .inr (5, [.ref aZ, .ref aPast, .int pastMany, .ref aKz, .int isKept, .ref aBuf, .int typed, .ref aStk, .ref aLaid, .int wid, .int hei, .ref aPcs, .ref aTold, .int toldMany, .int spot, .int wrong])), (aZ, .inl (cI, 207, .inl zz)), (aStk, .inl (cI, 64, .inl stk))]) [1, 2, 0] (by decide) rfl
          generalize H1 = H at hP hS ⊢
          refine lv_iadd hx hb dX6_fieldsWanted_53 ?_
          refine lv_topi (fun w4_9 ew4_9 => ?_)
          have hq := hq w4_9 ew4_9
          refine lv_istore (lv' := [(4, .int w4_9), (0, .ref aM), (1, .int r_1), (2, .int v2_2), (3, .int v3_3), (5, .int v5_5)]) hx hb dX6_fieldsWanted_54 hl (by decide) rfl (fun ls hl => ?_)
          refine lv_iinc (v := (v5_5 + (1 : Int32))) (lv' := [(5, .int (v5_5 + (1 : Int32))), (4, .int w4_9), (0, .ref aM), (1, .int r_1), (2, .int v2_2), (3, .int v3_3)]) hx hb dX6_fieldsWanted_56 hl (k := 5) rfl rfl (by decide) rfl (fun ls hl => ?_)
          refine lv_goto (tgt := 28) hx hb dX6_fieldsWanted_59 (by decide) ?_
          exact hq _ _ _ hP hD hS (lv_sub hl [2, 3, 4, 5, 1, 0] rfl))
      exact hq _ _ _ hP hD hS (lv_sub hl [2, 3, 4, 5, 1, 0] rfl))
  exact hq _ _ _ hP hD hS (lv_sub hl [3, 2, 1, 0] rfl)
set_option maxHeartbeats 4000000 in
set_option maxRecDepth 100000 in
theorem c_X6_punches (l : Launch) (dC : Nat → ClassId) (dI : Nat → Nat → Nat) (cI cC cS : ClassId) (aM : Nat) (aZ : Nat) (aPast : Nat) (aKz : Nat) (aBuf : Nat) (aStk : Nat) (aLaid : Nat) (aPcs : Nat) (aTold : Nat) (sz : Nat) (pastMany : Int32) (isKept : Int32) (typed : Int32) (wid : Int32) (hei : Int32) (toldMany : Int32) (spot : Int32) (wrong : Int32) (zz : Nat → Int32) (stk : Nat → Int32) (laid : Nat → Int32) {post : Int32 → Int32 → Int32 → (Nat → Int32) → (Nat → Int32) → Prop} (hq : wp_X6_punches wid hei zz stk laid post) : Met l yX6_punches wsX6_punches ({ frames := 4, cells := 0, slots := 0, locals := 94 } : Room) (gn_Pre (dC, dI) cI cC cS [.ref aM] sz [(aM, .inr (5, [.ref aZ, .ref aPast, .int pastMany, .ref aKz, .int isKept, .ref aBuf, .int typed, .ref aStk, .ref aLaid, .int wid, .int hei, .ref aPcs, .ref aTold, .int toldMany, .int spot, .int wrong])), (aZ, .inl (cI, 207, .inl zz)), (aStk, .inl (cI, 64, .inl stk)), (aLaid, .inl (cI, 64, .inl laid))]) (va_Qi (fun (r : Int32) (u : Int32 × Int32 × (Nat → Int32) × (Nat → Int32)) => post r u.1 u.2.1 u.2.2.1 u.2.2.2) (fun (u : Int32 × Int32 × (Nat → Int32) × (Nat → Int32)) t => va_P (dC, dI) vwCl [(aM, .inr (5, [.ref aZ, .ref aPast, .int pastMany, .ref aKz, .int isKept, .ref aBuf, .int typed, .ref aStk, .ref aLaid, .int u.1, .int u.2.1, .ref aPcs, .ref aTold, .int toldMany, .int spot, .int wrong])), (aZ, .inl (cI, 207, .inl zz)), (aStk, .inl (cI, 64, .inl u.2.2.1)), (aLaid, .inl (cI, 64, .inl u.2.2.2))] t.heap ∧ va_K (dC, dI) vwCl (gn_tys cI cC cS) t ∧ va_D (va_A [(aM, .inr (5, [.ref aZ, .ref aPast, .int pastMany, .ref aKz, .int isKept, .ref aBuf, .int typed, .ref aStk, .ref aLaid, .int wid, .int hei, .ref aPcs, .ref aTold, .int toldMany, .int spot, .int wrong])), (aZ, .inl (cI, 207, .inl zz)), (aStk, .inl (cI, 64, .inl stk)), (aLaid, .inl (cI, 64, .inl laid))] sz) [(aM, .inr (5, [.ref aZ, .ref aPast, .int pastMany, .ref aKz, .int isKept, .ref aBuf, .int typed, .ref aStk, .ref aLaid, .int u.1, .int u.2.1, .ref aPcs, .ref aTold, .int toldMany, .int spot, .int wrong])), (aZ, .inl (cI, 207, .inl zz)), (aStk, .inl (cI, 64, .inl u.2.2.1)), (aLaid, .inl (cI, 64, .inl u.2.2.2))]) (va_A [(aM, .inr (5, [.ref aZ, .ref aPast, .int pastMany, .ref aKz, .int isKept, .ref aBuf, .int typed, .ref aStk, .ref aLaid, .int wid, .int hei, .ref aPcs, .ref aTold, .int toldMany, .int spot, .int wrong])), (aZ, .inl (cI, 207, .inl zz)), (aStk, .inl (cI, 64, .inl stk)), (aLaid, .inl (cI, 64, .inl laid))] sz)) 0 0 (va_A [(aM, .inr (5, [.ref aZ, .ref aPast, .int pastMany, .ref aKz, .int isKept, .ref aBuf, .int typed, .ref aStk, .ref aLaid, .int wid, .int hei, .ref aPcs, .ref aTold, .int toldMany, .int spot, .int wrong])), (aZ, .inl (cI, 207, .inl zz)), (aStk, .inl (cI, 64, .inl stk)), (aLaid, .inl (cI, 64, .inl laid))] sz) := by
  unfold wp_X6_punches at hq
  refine Met.ofW (cc := cX6_punches) (maxL := 1) (ret := (some .int)) (by decide) rfl ?_
  intro p e s m args below meth c s₁ B hml hv
  obtain ⟨rfl, hsz, hP, hK, hN, hD0⟩ := hv
  have hx := B.exec
  have hb := B.bytes
  have hr := B.returns
  have hts := atoms_spec (ws := wsX6_punches) B.pre
  have hown : s.vm.findClass RX6 = some m.cls := findClass_of_methodNamed B.named
  have hlocks := B.notSynchronized
  subst hsz
  have hD := hD0.self (sz := s.heap.size)
  generalize hAe : va_A [(aM, .inr (5, [.ref aZ, .ref aPast, .int pastMany, .ref aKz, .int isKept, .ref aBuf, .int typed, .ref aStk, .ref aLaid, .int wid, .int hei, .ref aPcs, .ref aTold, .int toldMany, .int spot, .int wrong])), (aZ, .inl (cI, 207, .inl zz)), (aStk, .inl (cI, 64, .inl stk)), (aLaid, .inl (cI, 64, .inl laid))] s.heap.size = A at hD ⊢
  have hA : ∀ q : Nat, s.heap.size ≤ q → A q := fun q h => by rw [← hAe]; exact Or.inr h
  have hS : va_S A s.heap s.heap [] := va_S.rf
  have hl := lv_entry ([.ref aM] : List Value) (n := 1) (Nat.le_of_ble_eq_true rfl)
  rw [lg_entry_eq]
  generalize (lg_sl ([.ref aM] : List Value) ++ List.replicate (1 - (lg_sl ([.ref aM] : List Value)).length) Slot.unset).toArray = ls at hl ⊢
  have hl : lv_has ls 1 [(0, .ref aM)] := hl
  refine gn_Q (hret := fun Q => ∀ (pc : Nat) (ls : Array Slot) (H : Heap) (locs : List Loc) (r : Int32) (m_wid : Int32) (m_hei : Int32) (m_stk : Nat → Int32) (m_laid : Nat → Int32), decode cX6_punches pc = .ok (.ireturn, 1) → va_P (dC, dI) vwCl [(aM, .inr (5, [.ref aZ, .ref aPast, .int pastMany, .ref aKz, .int isKept, .ref aBuf, .int typed, .ref aStk, .ref aLaid, .int m_wid, .int m_hei, .ref aPcs, .ref aTold, .int toldMany, .int spot, .int wrong])), (aZ, .inl (cI, 207, .inl zz)), (aStk, .inl (cI, 64, .inl m_stk)), (aLaid, .inl (cI, 64, .inl m_laid))] H → va_D A [(aM, .inr (5, [.ref aZ, .ref aPast, .int pastMany, .ref aKz, .int isKept, .ref aBuf, .int typed, .ref aStk, .ref aLaid, .int m_wid, .int m_hei, .ref aPcs, .ref aTold, .int toldMany, .int spot, .int wrong])), (aZ, .inl (cI, 207, .inl zz)), (aStk, .inl (cI, 64, .inl m_stk)), (aLaid, .inl (cI, 64, .inl m_laid))] → va_S A s.heap H locs → post r m_wid m_hei m_stk m_laid → W p l e ({ frames := 4, cells := 0, slots := 0, locals := 94 } : Room) s m ([.ref aM] : List Value).toArray below meth c H locs 0 0 Q (F0 m pc ls [.int r])) (fun Q hret => ?_) ?_
  rotate_left
  · intro pc ls H locs r m_wid m_hei m_stk m_laid hdg hP hD hS hpost
    exact W.iret (v := r) hx hb hr (fun t ht hW => ⟨⟨r, (m_wid, m_hei, m_stk, m_laid), rfl, hpost, by rw [ht]; exact hP, va_K.moved hW.alike hK, hD⟩, hS.F ht⟩) hS.2.2 hdg
  refine lv_aload_n hx hb dX6_punches_0 rfl (lv_at hl 0 rfl) ?_
  have hPc := hP.sub (ws' := [(aM, .inr (5, [.ref aZ, .ref aPast, .int pastMany, .ref aKz, .int isKept, .ref aBuf, .int typed, .ref aStk, .ref aLaid, .int wid, .int hei, .ref aPcs, .ref aTold, .int toldMany, .int spot, .int wrong])), (aZ, .inl (cI, 207, .inl zz)), (aStk, .inl (cI, 64, .inl stk)), (aLaid, .inl (cI, 64, .inl laid))]) [0, 1, 2, 3] rfl
  have hDc := hD.sub (ws' := [(aM, .inr (5, [.ref aZ, .ref aPast, .int pastMany, .ref aKz, .int isKept, .ref aBuf, .int typed, .ref aStk, .ref aLaid, .int wid, .int hei, .ref aPcs, .ref aTold, .int toldMany, .int spot, .int wrong])), (aZ, .inl (cI, 207, .inl zz)), (aStk, .inl (cI, 64, .inl stk)), (aLaid, .inl (cI, 64, .inl laid))]) [0, 1, 2, 3] (by decide) rfl
  have hFc := va_free (wc := [(aM, .inr (5, [.ref aZ, .ref aPast, .int pastMany, .ref aKz, .int isKept, .ref aBuf, .int typed, .ref aStk, .ref aLaid, .int wid, .int hei, .ref aPcs, .ref aTold, .int toldMany, .int spot, .int wrong])), (aZ, .inl (cI, 207, .inl zz)), (aStk, .inl (cI, 64, .inl stk)), (aLaid, .inl (cI, 64, .inl laid))]) hD hS hA [0, 1, 2, 3] rfl
  refine va_callv (va_runV (As := []) (rest := []) ⟨hx, hb, hml, hown, hts⟩ (c_X6_layNow l dC dI cI cC cS aM aZ aPast aKz aBuf aStk aLaid aPcs aTold _ pastMany isKept typed wid hei toldMany spot wrong zz stk laid hq) (cwV 0 hts gX6_punches_X6_layNow rfl rfl rfl (by decide +kernel) ⟨Nat.le_of_ble_eq_true rfl, Nat.le_of_ble_eq_true rfl⟩) (gn_preV hPc hK hN hDc (ci := 5) (q0 := 0) rfl rfl) rfl rfl hl.1 rfl (lv_room (Nat.le_of_ble_eq_true rfl)) dX6_punches_1 ⟨Nat.zero_le _, Nat.zero_le _⟩) hS (fun q _ h => hFc q h) hFc (fun u t H1 locs ht hvm hq hB hz1 hk1 hS => ?_)
  obtain ⟨wid__1, hei__2, stk__3, laid__4⟩ := u
  obtain ⟨hP1, hK1, hD1⟩ := hB
  rw [ht] at hP1
  try dsimp only at hq
  obtain ⟨hP, hD⟩ := va_join (wr := []) (w1 := [(aM, .inr (5, [.ref aZ, .ref aPast, .int pastMany, .ref aKz, .int isKept, .ref aBuf, .int typed, .ref aStk, .ref aLaid, .int wid__1, .int hei__2, .ref aPcs, .ref aTold, .int toldMany, .int spot, .int wrong])), (aZ, .inl (cI, 207, .inl zz)), (aStk, .inl (cI, 64, .inl stk__3)), (aLaid, .inl (cI, 64, .inl laid__4))]) hP hD [0, 1, 2, 3] [] rfl rfl (by decide) (by decide) hk1 hFc hP1 hD1
  have hP := hP.sub (ws' := [(aM, .inr (5, [.ref aZ, .ref aPast, .int pastMany, .ref aKz, .int isKept, .ref aBuf, .int typed, .ref aStk, .ref aLaid, .int wid__1, .int hei__2, .ref aPcs, .ref aTold, .int toldMany, .int spot, .int wrong])), (aZ, .inl (cI, 207, .inl zz)), (aStk, .inl (cI, 64, .inl stk__3)), (aLaid, .inl (cI, 64, .inl laid__4))]) [0, 1, 2, 3] rfl
  have hD := hD.sub (ws' := [(aM, .inr (5, [.ref aZ, .ref aPast, .int pastMany, .ref aKz, .int isKept, .ref aBuf, .int typed, .ref aStk, .ref aLaid, .int wid__1, .int hei__2, .ref aPcs, .ref aTold, .int toldMany, .int spot, .int wrong])), (aZ, .inl (cI, 207, .inl zz)), (aStk, .inl (cI, 64, .inl stk__3)), (aLaid, .inl (cI, 64, .inl laid__4))]) [0, 1, 2, 3] (by decide) rfl
  generalize H1 = H at hP hS ⊢
  refine lv_aload_n hx hb dX6_punches_4 rfl (lv_at hl 0 rfl) ?_
  have hPc := hP.sub (ws' := [(aM, .inr (5, [.ref aZ, .ref aPast, .int pastMany, .ref aKz, .int isKept, .ref aBuf, .int typed, .ref aStk, .ref aLaid, .int wid__1, .int hei__2, .ref aPcs, .ref aTold, .int toldMany, .int spot, .int wrong])), (aZ, .inl (cI, 207, .inl zz)), (aStk, .inl (cI, 64, .inl stk__3))]) [0, 1, 2] rfl
  have hDc := hD.sub (ws' := [(aM, .inr (5, [.ref aZ, .ref aPast, .int pastMany, .ref aKz, .int isKept, .ref aBuf, .int typed, .ref aStk, .ref aLaid, .int wid__1, .int hei__2, .ref aPcs, .ref aTold, .int toldMany, .int spot, .int wrong])), (aZ, .inl (cI, 207, .inl zz)), (aStk, .inl (cI, 64, .inl stk__3))]) [0, 1, 2] (by decide) rfl
  have hFc := va_free (wc := [(aM, .inr (5, [.ref aZ, .ref aPast, .int pastMany, .ref aKz, .int isKept, .ref aBuf, .int typed, .ref aStk, .ref aLaid, .int wid__1, .int hei__2, .ref aPcs, .ref aTold, .int toldMany, .int spot, .int wrong])), (aZ, .inl (cI, 207, .inl zz)), (aStk, .inl (cI, 64, .inl stk__3))]) hD hS hA [0, 1, 2] rfl
  refine va_calli (va_runV (As := []) (rest := []) ⟨hx, hb, hml, hown, hts⟩ (c_X6_fieldsWanted l dC dI cI cC cS aM aZ aPast aKz aBuf aStk aLaid aPcs aTold _ pastMany isKept typed wid__1 hei__2 toldMany spot wrong zz stk__3 hq) (cwV 0 hts gX6_punches_X6_fieldsWanted rfl rfl rfl (by decide +kernel) ⟨Nat.le_of_ble_eq_true rfl, Nat.le_of_ble_eq_true rfl⟩) (gn_preV hPc hK hN hDc (ci := 5) (q0 := 0) rfl rfl) rfl rfl hl.1 rfl (lv_room (Nat.le_of_ble_eq_true rfl)) dX6_punches_5 ⟨Nat.zero_le _, Nat.zero_le _⟩) hS (fun q _ h => hFc q h) hFc (fun r_5 u t H1 locs ht hvm hq hB hz1 hk1 hS => ?_)
  obtain ⟨hP1, hK1, hD1⟩ := hB
  rw [ht] at hP1
  try dsimp only at hq
  obtain ⟨hP, hD⟩ := va_join (wr := [(aLaid, .inl (cI, 64, .inl laid__4))]) (w1 := [(aM, .inr (5, [.ref aZ, .ref aPast, .int pastMany, .ref aKz, .int isKept, .ref aBuf, .int typed, .ref aStk, .ref aLaid, .int wid__1, .int hei__2, .ref aPcs, .ref aTold, .int toldMany, .int spot, .int wrong])), (aZ, .inl (cI, 207, .inl zz)), (aStk, .inl (cI, 64, .inl stk__3))]) hP hD [0, 1, 2] [3] rfl rfl (by decide) (by decide) hk1 hFc hP1 hD1
  have hP := hP.sub (ws' := [(aM, .inr (5, [.ref aZ, .ref aPast, .int pastMany, .ref aKz, .int isKept, .ref aBuf, .int typed, .ref aStk, .ref aLaid, .int wid__1, .int hei__2, .ref aPcs, .ref aTold, .int toldMany, .int spot, .int wrong])), (aZ, .inl (cI, 207, .inl zz)), (aStk, .inl (cI, 64, .inl stk__3)), (aLaid, .inl (cI, 64, .inl laid__4))]) [1, 2, 3, 0] rfl
  have hD := hD.sub (ws' := [(aM, .inr (5, [.ref aZ, .ref aPast, .int pastMany, .ref aKz, .int isKept, .ref aBuf, .int typed, .ref aStk, .ref aLaid, .int wid__1, .int hei__2, .ref aPcs, .ref aTold, .int toldMany, .int spot, .int wrong])), (aZ, .inl (cI, 207, .inl zz)), (aStk, .inl (cI, 64, .inl stk__3)), (aLaid, .inl (cI, 64, .inl laid__4))]) [1, 2, 3, 0] (by decide) rfl
  generalize H1 = H at hP hS ⊢
  exact hret _ _ _ _ _ _ _ _ _ dX6_punches_8 hP hD hS hq
set_option maxHeartbeats 4000000 in
set_option maxRecDepth 100000 in
theorem c_X6_bestFolds (l : Launch) (dC : Nat → ClassId) (dI : Nat → Nat → Nat) (cI cC cS : ClassId) (aM : Nat) (aZ : Nat) (aPast : Nat) (aKz : Nat) (aBuf : Nat) (aStk : Nat) (aLaid : Nat) (aPcs : Nat) (aTold : Nat) (sz : Nat) (pastMany : Int32) (isKept : Int32) (typed : Int32) (wid : Int32) (hei : Int32) (toldMany : Int32) (spot : Int32) (wrong : Int32) (zz : Nat → Int32) (stk : Nat → Int32) (laid : Nat → Int32) {post : Int32 → Int32 → Int32 → (Nat → Int32) → (Nat → Int32) → Prop} (hq : wp_X6_bestFolds wid hei zz stk laid post) : Met l yX6_bestFolds wsX6_bestFolds ({ frames := 3, cells := 0, slots := 0, locals := 74 } : Room) (gn_Pre (dC, dI) cI cC cS [.ref aM] sz [(aM, .inr (5, [.ref aZ, .ref aPast, .int pastMany, .ref aKz, .int isKept, .ref aBuf, .int typed, .ref aStk, .ref aLaid, .int wid, .int hei, .ref aPcs, .ref aTold, .int toldMany, .int spot, .int wrong])), (aZ, .inl (cI, 207, .inl zz)), (aStk, .inl (cI, 64, .inl stk)), (aLaid, .inl (cI, 64, .inl laid))]) (va_Qi (fun (r : Int32) (u : Int32 × Int32 × (Nat → Int32) × (Nat → Int32)) => post r u.1 u.2.1 u.2.2.1 u.2.2.2) (fun (u : Int32 × Int32 × (Nat → Int32) × (Nat → Int32)) t => va_P (dC, dI) vwCl [(aM, .inr (5, [.ref aZ, .ref aPast, .int pastMany, .ref aKz, .int isKept, .ref aBuf, .int typed, .ref aStk, .ref aLaid, .int u.1, .int u.2.1, .ref aPcs, .ref aTold, .int toldMany, .int spot, .int wrong])), (aZ, .inl (cI, 207, .inl zz)), (aStk, .inl (cI, 64, .inl u.2.2.1)), (aLaid, .inl (cI, 64, .inl u.2.2.2))] t.heap ∧ va_K (dC, dI) vwCl (gn_tys cI cC cS) t ∧ va_D (va_A [(aM, .inr (5, [.ref aZ, .ref aPast, .int pastMany, .ref aKz, .int isKept, .ref aBuf, .int typed, .ref aStk, .ref aLaid, .int wid, .int hei, .ref aPcs, .ref aTold, .int toldMany, .int spot, .int wrong])), (aZ, .inl (cI, 207, .inl zz)), (aStk, .inl (cI, 64, .inl stk)), (aLaid, .inl (cI, 64, .inl laid))] sz) [(aM, .inr (5, [.ref aZ, .ref aPast, .int pastMany, .ref aKz, .int isKept, .ref aBuf, .int typed, .ref aStk, .ref aLaid, .int u.1, .int u.2.1, .ref aPcs, .ref aTold, .int toldMany, .int spot, .int wrong])), (aZ, .inl (cI, 207, .inl zz)), (aStk, .inl (cI, 64, .inl u.2.2.1)), (aLaid, .inl (cI, 64, .inl u.2.2.2))]) (va_A [(aM, .inr (5, [.ref aZ, .ref aPast, .int pastMany, .ref aKz, .int isKept, .ref aBuf, .int typed, .ref aStk, .ref aLaid, .int wid, .int hei, .ref aPcs, .ref aTold, .int toldMany, .int spot, .int wrong])), (aZ, .inl (cI, 207, .inl zz)), (aStk, .inl (cI, 64, .inl stk)), (aLaid, .inl (cI, 64, .inl laid))] sz)) 0 0 (va_A [(aM, .inr (5, [.ref aZ, .ref aPast, .int pastMany, .ref aKz, .int isKept, .ref aBuf, .int typed, .ref aStk, .ref aLaid, .int wid, .int hei, .ref aPcs, .ref aTold, .int toldMany, .int spot, .int wrong])), (aZ, .inl (cI, 207, .inl zz)), (aStk, .inl (cI, 64, .inl stk)), (aLaid, .inl (cI, 64, .inl laid))] sz) := by
  unfold wp_X6_bestFolds at hq
  refine Met.ofW (cc := cX6_bestFolds) (maxL := 7) (ret := (some .int)) (by decide) rfl ?_
  intro p e s m args below meth c s₁ B hml hv
  obtain ⟨rfl, hsz, hP, hK, hN, hD0⟩ := hv
  have hx := B.exec
  have hb := B.bytes
  have hr := B.returns
  have hts := atoms_spec (ws := wsX6_bestFolds) B.pre
  have hown : s.vm.findClass RX6 = some m.cls := findClass_of_methodNamed B.named
  have hlocks := B.notSynchronized
  subst hsz
  have hD := hD0.self (sz := s.heap.size)
  generalize hAe : va_A [(aM, .inr (5, [.ref aZ, .ref aPast, .int pastMany, .ref aKz, .int isKept, .ref aBuf, .int typed, .ref aStk, .ref aLaid, .int wid, .int hei, .ref aPcs, .ref aTold, .int toldMany, .int spot, .int wrong])), (aZ, .inl (cI, 207, .inl zz)), (aStk, .inl (cI, 64, .inl stk)), (aLaid, .inl (cI, 64, .inl laid))] s.heap.size = A at hD ⊢
  have hA : ∀ q : Nat, s.heap.size ≤ q → A q := fun q h => by rw [← hAe]; exact Or.inr h
  have hS : va_S A s.heap s.heap [] := va_S.rf
  have hl := lv_entry ([.ref aM] : List Value) (n := 7) (Nat.le_of_ble_eq_true rfl)
  rw [lg_entry_eq]
  generalize (lg_sl ([.ref aM] : List Value) ++ List.replicate (7 - (lg_sl ([.ref aM] : List Value)).length) Slot.unset).toArray = ls at hl ⊢
  have hl : lv_has ls 7 [(0, .ref aM)] := hl
  refine gn_Q (hret := fun Q => ∀ (pc : Nat) (ls : Array Slot) (H : Heap) (locs : List Loc) (r : Int32) (m_wid : Int32) (m_hei : Int32) (m_stk : Nat → Int32) (m_laid : Nat → Int32), decode cX6_bestFolds pc = .ok (.ireturn, 1) → va_P (dC, dI) vwCl [(aM, .inr (5, [.ref aZ, .ref aPast, .int pastMany, .ref aKz, .int isKept, .ref aBuf, .int typed, .ref aStk, .ref aLaid, .int m_wid, .int m_hei, .ref aPcs, .ref aTold, .int toldMany, .int spot, .int wrong])), (aZ, .inl (cI, 207, .inl zz)), (aStk, .inl (cI, 64, .inl m_stk)), (aLaid, .inl (cI, 64, .inl m_laid))] H → va_D A [(aM, .inr (5, [.ref aZ, .ref aPast, .int pastMany, .ref aKz, .int isKept, .ref aBuf, .int typed, .ref aStk, .ref aLaid, .int m_wid, .int m_hei, .ref aPcs, .ref aTold, .int toldMany, .int spot, .int wrong])), (aZ, .inl (cI, 207, .inl zz)), (aStk, .inl (cI, 64, .inl m_stk)), (aLaid, .inl (cI, 64, .inl m_laid))] → va_S A s.heap H locs → post r m_wid m_hei m_stk m_laid → W p l e ({ frames := 3, cells := 0, slots := 0, locals := 74 } : Room) s m ([.ref aM] : List Value).toArray below meth c H locs 0 0 Q (F0 m pc ls [.int r])) (fun Q hret => ?_) ?_
  rotate_left
  · intro pc ls H locs r m_wid m_hei m_stk m_laid hdg hP hD hS hpost
    exact W.iret (v := r) hx hb hr (fun t ht hW => ⟨⟨r, (m_wid, m_hei, m_stk, m_laid), rfl, hpost, by rw [ht]; exact hP, va_K.moved hW.alike hK, hD⟩, hS.F ht⟩) hS.2.2 hdg
  refine lv_bipush (v := -6) hx hb dX6_bestFolds_0 (by decide) ?_
  refine lv_istore_n (lv' := [(1, .int (-6 : Int32)), (0, .ref aM)]) hx hb dX6_bestFolds_2 rfl hl (by decide) rfl (fun ls hl => ?_)
  refine lv_iconst (v := 0) hx hb dX6_bestFolds_3 (by decide) ?_
  refine lv_istore_n (lv' := [(2, .int (0 : Int32)), (1, .int (-6 : Int32)), (0, .ref aM)]) hx hb dX6_bestFolds_4 rfl hl (by decide) rfl (fun ls hl => ?_)
  refine lv_iconst (v := 0) hx hb dX6_bestFolds_5 (by decide) ?_
  refine lv_istore_n (lv' := [(3, .int (0 : Int32)), (2, .int (0 : Int32)), (1, .int (-6 : Int32)), (0, .ref aM)]) hx hb dX6_bestFolds_6 rfl hl (by decide) rfl (fun ls hl => ?_)
  have hq := hq (fun (v1_1 : Int32) (v2_2 : Int32) (v3_3 : Int32) (wid__4 : Int32) (hei__5 : Int32) (stk__6 : Nat → Int32) (laid__7 : Nat → Int32) => ∀ (H : Heap) (locs : List Loc) (ls : Array Slot), va_P (dC, dI) vwCl [(aM, .inr (5, [.ref aZ, .ref aPast, .int pastMany, .ref aKz, .int isKept, .ref aBuf, .int typed, .ref aStk, .ref aLaid, .int wid__4, .int hei__5, .ref aPcs, .ref aTold, .int toldMany, .int spot, .int wrong])), (aZ, .inl (cI, 207, .inl zz)), (aStk, .inl (cI, 64, .inl stk__6)), (aLaid, .inl (cI, 64, .inl laid__7))] H → va_D A [(aM, .inr (5, [.ref aZ, .ref aPast, .int pastMany, .ref aKz, .int isKept, .ref aBuf, .int typed, .ref aStk, .ref aLaid, .int wid__4, .int hei__5, .ref aPcs, .ref aTold, .int toldMany, .int spot, .int wrong])), (aZ, .inl (cI, 207, .inl zz)), (aStk, .inl (cI, 64, .inl stk__6)), (aLaid, .inl (cI, 64, .inl laid__7))] → va_S A s.heap H locs → lv_has ls 7 [(0, .ref aM), (1, .int v1_1), (2, .int v2_2), (3, .int v3_3)] → W p l e ({ frames := 3, cells := 0, slots := 0, locals := 74 } : Room) s m ([.ref aM] : List Value).toArray below meth c H locs 0 0 Q (F0 m 7 ls [])) (by
    intro v1_1 v2_2 v3_3 wid__4 hei__5 stk__6 laid__7 hq H locs ls hP hD hS hl
    refine lv_iload_n hx hb dX6_bestFolds_7 rfl (lv_at hl 3 rfl) ?_
    refine lv_bipush (v := 6) hx hb dX6_bestFolds_8 (by decide) ?_
    refine lv_icmp_gt (tgt := 148) hx hb dX6_bestFolds_10 (by decide) (fun hc => ?_) (fun hc => ?_)
    · have hq := hq.1 hc
      refine lv_iload_n hx hb dX6_bestFolds_148 rfl (lv_at hl 1 rfl) ?_
      exact hret _ _ _ _ _ _ _ _ _ dX6_bestFolds_149 hP hD hS hq
    · have hq := hq.2 hc
      refine lv_iconst (v := 0) hx hb dX6_bestFolds_13 (by decide) ?_
      refine lv_istore (lv' := [(4, .int (0 : Int32)), (0, .ref aM), (1, .int v1_1), (2, .int v2_2), (3, .int v3_3)]) hx hb dX6_bestFolds_14 hl (by decide) rfl (fun ls hl => ?_)
      have hq := hq (fun (v1_8 : Int32) (v2_9 : Int32) (v4_10 : Int32) (wid__11 : Int32) (hei__12 : Int32) (stk__13 : Nat → Int32) (laid__14 : Nat → Int32) => ∀ (H : Heap) (locs : List Loc) (ls : Array Slot), va_P (dC, dI) vwCl [(aM, .inr (5, [.ref aZ, .ref aPast, .int pastMany, .ref aKz, .int isKept, .ref aBuf, .int typed, .ref aStk, .ref aLaid, .int wid__11, .int hei__12, .ref aPcs, .ref aTold, .int toldMany, .int spot, .int wrong])), (aZ, .inl (cI, 207, .inl zz)), (aStk, .inl (cI, 64, .inl stk__13)), (aLaid, .inl (cI, 64, .inl laid__14))] H → va_D A [(aM, .inr (5, [.ref aZ, .ref aPast, .int pastMany, .ref aKz, .int isKept, .ref aBuf, .int typed, .ref aStk, .ref aLaid, .int wid__11, .int hei__12, .ref aPcs, .ref aTold, .int toldMany, .int spot, .int wrong])), (aZ, .inl (cI, 207, .inl zz)), (aStk, .inl (cI, 64, .inl stk__13)), (aLaid, .inl (cI, 64, .inl laid__14))] → va_S A s.heap H locs → lv_has ls 7 [(0, .ref aM), (1, .int v1_8), (2, .int v2_9), (3, .int v3_3), (4, .int v4_10)] → W p l e ({ frames := 3, cells := 0, slots := 0, locals := 74 } : Room) s m ([.ref aM] : List Value).toArray below meth c H locs 0 0 Q (F0 m 16 ls [])) (by
        intro v1_8 v2_9 v4_10 wid__11 hei__12 stk__13 laid__14 hq H locs ls hP hD hS hl
        refine lv_iload hx hb dX6_bestFolds_16 (lv_at hl 4 rfl) ?_
        refine lv_iconst (v := 3) hx hb dX6_bestFolds_18 (by decide) ?_
        have hq := hq (∀ (H : Heap) (locs : List Loc) (ls : Array Slot), va_P (dC, dI) vwCl [(aM, .inr (5, [.ref aZ, .ref aPast, .int pastMany, .ref aKz, .int isKept, .ref aBuf, .int typed, .ref aStk, .ref aLaid, .int wid__11, .int hei__12, .ref aPcs, .ref aTold, .int toldMany, .int spot, .int wrong])), (aZ, .inl (cI, 207, .inl zz)), (aStk, .inl (cI, 64, .inl stk__13)), (aLaid, .inl (cI, 64, .inl laid__14))] H → va_D A [(aM, .inr (5, [.ref aZ, .ref aPast, .int pastMany, .ref aKz, .int isKept, .ref aBuf, .int typed, .ref aStk, .ref aLaid, .int wid__11, .int hei__12, .ref aPcs, .ref aTold, .int toldMany, .int spot, .int wrong])), (aZ, .inl (cI, 207, .inl zz)), (aStk, .inl (cI, 64, .inl stk__13)), (aLaid, .inl (cI, 64, .inl laid__14))] → va_S A s.heap H locs → lv_has ls 7 [(0, .ref aM), (1, .int v1_8), (2, .int v2_9), (3, .int v3_3)] → W p l e ({ frames := 3, cells := 0, slots := 0, locals := 74 } : Room) s m ([.ref aM] : List Value).toArray below meth c H locs 0 0 Q (F0 m 142 ls [])) (by
          intro  hq H locs ls hP hD hS hl
          refine lv_iinc (v := (v3_3 + (1 : Int32))) (lv' := [(3, .int (v3_3 + (1 : Int32))), (0, .ref aM), (1, .int v1_8), (2, .int v2_9)]) hx hb dX6_bestFolds_142 hl (k := 3) rfl rfl (by decide) rfl (fun ls hl => ?_)
          refine lv_goto (tgt := 7) hx hb dX6_bestFolds_145 (by decide) ?_
          exact hq _ _ _ hP hD hS (lv_sub hl [1, 2, 3, 0] rfl))
        refine lv_icmp_gt (tgt := 142) hx hb dX6_bestFolds_19 (by decide) (fun hc => ?_) (fun hc => ?_)
        · have hq := hq.1 hc
          exact hq _ _ _ hP hD hS (lv_sub hl [0, 1, 2, 3] rfl)
        · have hq := hq.2 hc
          refine lv_iload hx hb dX6_bestFolds_22 (lv_at hl 4 rfl) ?_
          refine lv_iload_n hx hb dX6_bestFolds_24 rfl (lv_at hl 3 rfl) ?_
          refine lv_icmp_gt (tgt := 142) hx hb dX6_bestFolds_25 (by decide) (fun hc => ?_) (fun hc => ?_)
          · have hq := hq.1 hc
            exact hq _ _ _ hP hD hS (lv_sub hl [0, 1, 2, 3] rfl)
          · have hq := hq.2 hc
            refine lv_iload_n hx hb dX6_bestFolds_28 rfl (lv_at hl 3 rfl) ?_
            refine lv_iload hx hb dX6_bestFolds_29 (lv_at hl 4 rfl) ?_
            refine lv_isub hx hb dX6_bestFolds_31 ?_
            refine lv_iconst (v := 3) hx hb dX6_bestFolds_32 (by decide) ?_
            have hq := hq (fun (v1_15 : Int32) (v2_16 : Int32) (wid__17 : Int32) (hei__18 : Int32) (stk__19 : Nat → Int32) (laid__20 : Nat → Int32) => ∀ (H : Heap) (locs : List Loc) (ls : Array Slot), va_P (dC, dI) vwCl [(aM, .inr (5, [.ref aZ, .ref aPast, .int pastMany, .ref aKz, .int isKept, .ref aBuf, .int typed, .ref aStk, .ref aLaid, .int wid__17, .int hei__18, .ref aPcs, .ref aTold, .int toldMany, .int spot, .int wrong])), (aZ, .inl (cI, 207, .inl zz)), (aStk, .inl (cI, 64, .inl stk__19)), (aLaid, .inl (cI, 64, .inl laid__20))] H → va_D A [(aM, .inr (5, [.ref aZ, .ref aPast, .int pastMany, .ref aKz, .int isKept, .ref aBuf, .int typed, .ref aStk, .ref aLaid, .int wid__17, .int hei__18, .ref aPcs, .ref aTold, .int toldMany, .int spot, .int wrong])), (aZ, .inl (cI, 207, .inl zz)), (aStk, .inl (cI, 64, .inl stk__19)), (aLaid, .inl (cI, 64, .inl laid__20))] → va_S A s.heap H locs → lv_has ls 7 [(0, .ref aM), (1, .int v1_15), (2, .int v2_16), (3, .int v3_3), (4, .int v4_10)] → W p l e ({ frames := 3, cells := 0, slots := 0, locals := 74 } : Room) s m ([.ref aM] : List Value).toArray below meth c H locs 0 0 Q (F0 m 136 ls [])) (by
              intro v1_15 v2_16 wid__17 hei__18 stk__19 laid__20 hq H locs ls hP hD hS hl
              refine lv_iinc (v := (v4_10 + (1 : Int32))) (lv' := [(4, .int (v4_10 + (1 : Int32))), (0, .ref aM), (1, .int v1_15), (2, .int v2_16), (3, .int v3_3)]) hx hb dX6_bestFolds_136 hl (k := 4) rfl rfl (by decide) rfl (fun ls hl => ?_)
              refine lv_goto (tgt := 16) hx hb dX6_bestFolds_139 (by decide) ?_
              exact hq _ _ _ hP hD hS (lv_sub hl [1, 2, 3, 4, 0] rfl))
            refine lv_icmp_gt (tgt := 136) hx hb dX6_bestFolds_33 (by decide) (fun hc => ?_) (fun hc => ?_)
            · have hq := hq.1 hc
              exact hq _ _ _ hP hD hS (lv_sub hl [0, 1, 2, 3, 4] rfl)
            · have hq := hq.2 hc
              refine lv_aload_n hx hb dX6_bestFolds_36 rfl (lv_at hl 0 rfl) ?_
              refine lv_iconst (v := 0) hx hb dX6_bestFolds_37 (by decide) ?_
              have hPc := hP.sub (ws' := [(aM, .inr (5, [.ref aZ, .ref aPast, .int pastMany, .ref aKz, .int isKept, .ref aBuf, .int typed, .ref aStk, .ref aLaid, .int wid__11, .int hei__12, .ref aPcs, .ref aTold, .int toldMany, .int spot, .int wrong])), (aZ, .inl (cI, 207, .inl zz)), (aStk, .inl (cI, 64, .inl stk__13)), (aLaid, .inl (cI, 64, .inl laid__14))]) [0, 1, 2, 3] rfl
              have hDc := hD.sub (ws' := [(aM, .inr (5, [.ref aZ, .ref aPast, .int pastMany, .ref aKz, .int isKept, .ref aBuf, .int typed, .ref aStk, .ref aLaid, .int wid__11, .int hei__12, .ref aPcs, .ref aTold, .int toldMany, .int spot, .int wrong])), (aZ, .inl (cI, 207, .inl zz)), (aStk, .inl (cI, 64, .inl stk__13)), (aLaid, .inl (cI, 64, .inl laid__14))]) [0, 1, 2, 3] (by decide) rfl
              have hFc := va_free (wc := [(aM, .inr (5, [.ref aZ, .ref aPast, .int pastMany, .ref aKz, .int isKept, .ref aBuf, .int typed, .ref aStk, .ref aLaid, .int wid__11, .int hei__12, .ref aPcs, .ref aTold, .int toldMany, .int spot, .int wrong])), (aZ, .inl (cI, 207, .inl zz)), (aStk, .inl (cI, 64, .inl stk__13)), (aLaid, .inl (cI, 64, .inl laid__14))]) hD hS hA [0, 1, 2, 3] rfl
              refine va_callv (va_runV (As := [.int (0 : Int32)]) (rest := []) ⟨hx, hb, hml, hown, hts⟩ (c_X6_lay l dC dI cI cC cS aM aZ aPast aKz aBuf aStk aLaid aPcs aTold _ pastMany isKept typed wid__11 hei__12 toldMany spot wrong zz stk__13 laid__14 (0 : Int32) hq) (cwV 1 hts gX6_bestFolds_X6_lay rfl rfl rfl (by decide +kernel) ⟨Nat.le_of_ble_eq_true rfl, Nat.le_of_ble_eq_true rfl⟩) (gn_preV hPc hK hN hDc (ci := 5) (q0 := 0) rfl rfl) rfl rfl hl.1 rfl (lv_room (Nat.le_of_ble_eq_true rfl)) dX6_bestFolds_38 ⟨Nat.zero_le _, Nat.zero_le _⟩) hS (fun q _ h => hFc q h) hFc (fun u t H1 locs ht hvm hq hB hz1 hk1 hS => ?_)
              obtain ⟨wid__21, hei__22, stk__23, laid__24⟩ := u
              obtain ⟨hP1, hK1, hD1⟩ := hB
              rw [ht] at hP1
              try dsimp only at hq
              obtain ⟨hP, hD⟩ := va_join (wr := []) (w1 := [(aM, .inr (5, [.ref aZ, .ref aPast, .int pastMany, .ref aKz, .int isKept, .ref aBuf, .int typed, .ref aStk, .ref aLaid, .int wid__21, .int hei__22, .ref aPcs, .ref aTold, .int toldMany, .int spot, .int wrong])), (aZ, .inl (cI, 207, .inl zz)), (aStk, .inl (cI, 64, .inl stk__23)), (aLaid, .inl (cI, 64, .inl laid__24))]) hP hD [0, 1, 2, 3] [] rfl rfl (by decide) (by decide) hk1 hFc hP1 hD1
              have hP := hP.sub (ws' := [(aM, .inr (5, [.ref aZ, .ref aPast, .int pastMany, .ref aKz, .int isKept, .ref aBuf, .int typed, .ref aStk, .ref aLaid, .int wid__21, .int hei__22, .ref aPcs, .ref aTold, .int toldMany, .int spot, .int wrong])), (aZ, .inl (cI, 207, .inl zz)), (aStk, .inl (cI, 64, .inl stk__23)), (aLaid, .inl (cI, 64, .inl laid__24))]) [0, 1, 2, 3] rfl
              have hD := hD.sub (ws' := [(aM, .inr (5, [.ref aZ, .ref aPast, .int pastMany, .ref aKz, .int isKept, .ref aBuf, .int typed, .ref aStk, .ref aLaid, .int wid__21, .int hei__22, .ref aPcs, .ref aTold, .int toldMany, .int spot, .int wrong])), (aZ, .inl (cI, 207, .inl zz)), (aStk, .inl (cI, 64, .inl stk__23)), (aLaid, .inl (cI, 64, .inl laid__24))]) [0, 1, 2, 3] (by decide) rfl
              generalize H1 = H at hP hS ⊢
              refine lv_iconst (v := 0) hx hb dX6_bestFolds_41 (by decide) ?_
              refine lv_istore (lv' := [(5, .int (0 : Int32)), (0, .ref aM), (1, .int v1_8), (2, .int v2_9), (3, .int v3_3), (4, .int v4_10)]) hx hb dX6_bestFolds_42 hl (by decide) rfl (fun ls hl => ?_)
              have hq := hq (fun (v5_25 : Int32) (wid__26 : Int32) (hei__27 : Int32) (stk__28 : Nat → Int32) (laid__29 : Nat → Int32) => ∀ (H : Heap) (locs : List Loc) (ls : Array Slot), va_P (dC, dI) vwCl [(aM, .inr (5, [.ref aZ, .ref aPast, .int pastMany, .ref aKz, .int isKept, .ref aBuf, .int typed, .ref aStk, .ref aLaid, .int wid__26, .int hei__27, .ref aPcs, .ref aTold, .int toldMany, .int spot, .int wrong])), (aZ, .inl (cI, 207, .inl zz)), (aStk, .inl (cI, 64, .inl stk__28)), (aLaid, .inl (cI, 64, .inl laid__29))] H → va_D A [(aM, .inr (5, [.ref aZ, .ref aPast, .int pastMany, .ref aKz, .int isKept, .ref aBuf, .int typed, .ref aStk, .ref aLaid, .int wid__26, .int hei__27, .ref aPcs, .ref aTold, .int toldMany, .int spot, .int wrong])), (aZ, .inl (cI, 207, .inl zz)), (aStk, .inl (cI, 64, .inl stk__28)), (aLaid, .inl (cI, 64, .inl laid__29))] → va_S A s.heap H locs → lv_has ls 7 [(0, .ref aM), (1, .int v1_8), (2, .int v2_9), (3, .int v3_3), (4, .int v4_10), (5, .int v5_25)] → W p l e ({ frames := 3, cells := 0, slots := 0, locals := 74 } : Room) s m ([.ref aM] : List Value).toArray below meth c H locs 0 0 Q (F0 m 44 ls [])) (by
                intro v5_25 wid__26 hei__27 stk__28 laid__29 hq H locs ls hP hD hS hl
                refine lv_iload hx hb dX6_bestFolds_44 (lv_at hl 5 rfl) ?_
                refine lv_iload_n hx hb dX6_bestFolds_46 rfl (lv_at hl 3 rfl) ?_
                refine lv_icmp_ge (tgt := 72) hx hb dX6_bestFolds_47 (by decide) (fun hc => ?_) (fun hc => ?_)
                · have hq := hq.1 hc
                  refine lv_aload_n hx hb dX6_bestFolds_72 rfl (lv_at hl 0 rfl) ?_
                  have hPc := hP.sub (ws' := [(aM, .inr (5, [.ref aZ, .ref aPast, .int pastMany, .ref aKz, .int isKept, .ref aBuf, .int typed, .ref aStk, .ref aLaid, .int wid__26, .int hei__27, .ref aPcs, .ref aTold, .int toldMany, .int spot, .int wrong])), (aZ, .inl (cI, 207, .inl zz)), (aStk, .inl (cI, 64, .inl stk__28))]) [0, 1, 2] rfl
                  have hDc := hD.sub (ws' := [(aM, .inr (5, [.ref aZ, .ref aPast, .int pastMany, .ref aKz, .int isKept, .ref aBuf, .int typed, .ref aStk, .ref aLaid, .int wid__26, .int hei__27, .ref aPcs, .ref aTold, .int toldMany, .int spot, .int wrong])), (aZ, .inl (cI, 207, .inl zz)), (aStk, .inl (cI, 64, .inl stk__28))]) [0, 1, 2] (by decide) rfl
                  have hFc := va_free (wc := [(aM, .inr (5, [.ref aZ, .ref aPast, .int pastMany, .ref aKz, .int isKept, .ref aBuf, .int typed, .ref aStk, .ref aLaid, .int wid__26, .int hei__27, .ref aPcs, .ref aTold, .int toldMany, .int spot, .int wrong])), (aZ, .inl (cI, 207, .inl zz)), (aStk, .inl (cI, 64, .inl stk__28))]) hD hS hA [0, 1, 2] rfl
                  refine va_calli (va_runV (As := []) (rest := []) ⟨hx, hb, hml, hown, hts⟩ (c_X6_fieldsWanted l dC dI cI cC cS aM aZ aPast aKz aBuf aStk aLaid aPcs aTold _ pastMany isKept typed wid__26 hei__27 toldMany spot wrong zz stk__28 hq) (cwV 0 hts gX6_bestFolds_X6_fieldsWanted rfl rfl rfl (by decide +kernel) ⟨Nat.le_of_ble_eq_true rfl, Nat.le_of_ble_eq_true rfl⟩) (gn_preV hPc hK hN hDc (ci := 5) (q0 := 0) rfl rfl) rfl rfl hl.1 rfl (lv_room (Nat.le_of_ble_eq_true rfl)) dX6_bestFolds_73 ⟨Nat.zero_le _, Nat.zero_le _⟩) hS (fun q _ h => hFc q h) hFc (fun r_30 u t H1 locs ht hvm hq hB hz1 hk1 hS => ?_)
                  obtain ⟨hP1, hK1, hD1⟩ := hB
                  rw [ht] at hP1
                  try dsimp only at hq
                  obtain ⟨hP, hD⟩ := va_join (wr := [(aLaid, .inl (cI, 64, .inl laid__29))]) (w1 := [(aM, .inr (5, [.ref aZ, .ref aPast, .int pastMany, .ref aKz, .int isKept, .ref aBuf, .int typed, .ref aStk, .ref aLaid, .int wid__26, .int hei__27, .ref aPcs, .ref aTold, .int toldMany, .int spot, .int wrong])), (aZ, .inl (cI, 207, .inl zz)), (aStk, .inl (cI, 64, .inl stk__28))]) hP hD [0, 1, 2] [3] rfl rfl (by decide) (by decide) hk1 hFc hP1 hD1
                  have hP := hP.sub (ws' := [(aM, .inr (5, [.ref aZ, .ref aPast, .int pastMany, .ref aKz, .int isKept, .ref aBuf, .int typed, .ref aStk, .ref aLaid, .int wid__26, .int hei__27, .ref aPcs, .ref aTold, .int toldMany, .int spot, .int wrong])), (aZ, .inl (cI, 207, .inl zz)), (aStk, .inl (cI, 64, .inl stk__28)), (aLaid, .inl (cI, 64, .inl laid__29))]) [1, 2, 3, 0] rfl
                  have hD := hD.sub (ws' := [(aM, .inr (5, [.ref aZ, .ref aPast, .int pastMany, .ref aKz, .int isKept, .ref aBuf, .int typed, .ref aStk, .ref aLaid, .int wid__26, .int hei__27, .ref aPcs, .ref aTold, .int toldMany, .int spot, .int wrong])), (aZ, .inl (cI, 207, .inl zz)), (aStk, .inl (cI, 64, .inl stk__28)), (aLaid, .inl (cI, 64, .inl laid__29))]) [1, 2, 3, 0] (by decide) rfl
                  generalize H1 = H at hP hS ⊢
                  refine lv_istore (lv' := [(5, .int r_30), (0, .ref aM), (1, .int v1_8), (2, .int v2_9), (3, .int v3_3), (4, .int v4_10)]) hx hb dX6_bestFolds_76 hl (by decide) rfl (fun ls hl => ?_)
                  refine lv_iload hx hb dX6_bestFolds_78 (lv_at hl 0 rfl) ?_
                  refine lv_bipush (v := -6) hx hb dX6_bestFolds_80 (by decide) ?_
                  have hq := hq (fun (t_31 : Int32) => ∀ (H : Heap) (locs : List Loc) (ls : Array Slot), va_P (dC, dI) vwCl [(aM, .inr (5, [.ref aZ, .ref aPast, .int pastMany, .ref aKz, .int isKept, .ref aBuf, .int typed, .ref aStk, .ref aLaid, .int wid__26, .int hei__27, .ref aPcs, .ref aTold, .int toldMany, .int spot, .int wrong])), (aZ, .inl (cI, 207, .inl zz)), (aStk, .inl (cI, 64, .inl stk__28)), (aLaid, .inl (cI, 64, .inl laid__29))] H → va_D A [(aM, .inr (5, [.ref aZ, .ref aPast, .int pastMany, .ref aKz, .int isKept, .ref aBuf, .int typed, .ref aStk, .ref aLaid, .int wid__26, .int hei__27, .ref aPcs, .ref aTold, .int toldMany, .int spot, .int wrong])), (aZ, .inl (cI, 207, .inl zz)), (aStk, .inl (cI, 64, .inl stk__28)), (aLaid, .inl (cI, 64, .inl laid__29))] → va_S A s.heap H locs → lv_has ls 7 [(0, .ref aM), (1, .int v1_8), (2, .int v2_9), (3, .int v3_3), (4, .int v4_10), (5, .int r_30)] → W p l e ({ frames := 3, cells := 0, slots := 0, locals := 74 } : Room) s m ([.ref aM] : List Value).toArray below meth c H locs 0 0 Q (F0 m 102 ls [.int t_31])) (by
                    intro t_31 hq H locs ls hP hD hS hl
                    refine lv_istore (lv' := [(6, .int t_31), (0, .ref aM), (1, .int v1_8), (2, .int v2_9), (3, .int v3_3), (4, .int v4_10), (5, .int r_30)]) hx hb dX6_bestFolds_102 hl (by decide) rfl (fun ls hl => ?_)
                    refine lv_iload hx hb dX6_bestFolds_104 (lv_at hl 0 rfl) ?_
                    have hq := hq (fun (t_32 : Int32) => ∀ (H : Heap) (locs : List Loc) (ls : Array Slot), va_P (dC, dI) vwCl [(aM, .inr (5, [.ref aZ, .ref aPast, .int pastMany, .ref aKz, .int isKept, .ref aBuf, .int typed, .ref aStk, .ref aLaid, .int wid__26, .int hei__27, .ref aPcs, .ref aTold, .int toldMany, .int spot, .int wrong])), (aZ, .inl (cI, 207, .inl zz)), (aStk, .inl (cI, 64, .inl stk__28)), (aLaid, .inl (cI, 64, .inl laid__29))] H → va_D A [(aM, .inr (5, [.ref aZ, .ref aPast, .int pastMany, .ref aKz, .int isKept, .ref aBuf, .int typed, .ref aStk, .ref aLaid, .int wid__26, .int hei__27, .ref aPcs, .ref aTold, .int toldMany, .int spot, .int wrong])), (aZ, .inl (cI, 207, .inl zz)), (aStk, .inl (cI, 64, .inl stk__28)), (aLaid, .inl (cI, 64, .inl laid__29))] → va_S A s.heap H locs → lv_has ls 7 [(0, .ref aM), (2, .int v2_9), (3, .int v3_3), (4, .int v4_10), (5, .int r_30), (6, .int t_31)] → W p l e ({ frames := 3, cells := 0, slots := 0, locals := 74 } : Room) s m ([.ref aM] : List Value).toArray below meth c H locs 0 0 Q (F0 m 123 ls [.int t_32])) (by
                      intro t_32 hq H locs ls hP hD hS hl
                      refine lv_istore_n (lv' := [(1, .int t_32), (0, .ref aM), (2, .int v2_9), (3, .int v3_3), (4, .int v4_10), (5, .int r_30), (6, .int t_31)]) hx hb dX6_bestFolds_123 rfl hl (by decide) rfl (fun ls hl => ?_)
                      refine lv_iload hx hb dX6_bestFolds_124 (lv_at hl 6 rfl) ?_
                      have hq := hq (fun (t_33 : Int32) => ∀ (H : Heap) (locs : List Loc) (ls : Array Slot), va_P (dC, dI) vwCl [(aM, .inr (5, [.ref aZ, .ref aPast, .int pastMany, .ref aKz, .int isKept, .ref aBuf, .int typed, .ref aStk, .ref aLaid, .int wid__26, .int hei__27, .ref aPcs, .ref aTold, .int toldMany, .int spot, .int wrong])), (aZ, .inl (cI, 207, .inl zz)), (aStk, .inl (cI, 64, .inl stk__28)), (aLaid, .inl (cI, 64, .inl laid__29))] H → va_D A [(aM, .inr (5, [.ref aZ, .ref aPast, .int pastMany, .ref aKz, .int isKept, .ref aBuf, .int typed, .ref aStk, .ref aLaid, .int wid__26, .int hei__27, .ref aPcs, .ref aTold, .int toldMany, .int spot, .int wrong])), (aZ, .inl (cI, 207, .inl zz)), (aStk, .inl (cI, 64, .inl stk__28)), (aLaid, .inl (cI, 64, .inl laid__29))] → va_S A s.heap H locs → lv_has ls 7 [(0, .ref aM), (1, .int t_32), (3, .int v3_3), (4, .int v4_10)] → W p l e ({ frames := 3, cells := 0, slots := 0, locals := 74 } : Room) s m ([.ref aM] : List Value).toArray below meth c H locs 0 0 Q (F0 m 135 ls [.int t_33])) (by
                        intro t_33 hq H locs ls hP hD hS hl
                        refine lv_istore_n (lv' := [(2, .int t_33), (0, .ref aM), (1, .int t_32), (3, .int v3_3), (4, .int v4_10)]) hx hb dX6_bestFolds_135 rfl hl (by decide) rfl (fun ls hl => ?_)
                        exact hq _ _ _ hP hD hS (lv_sub hl [1, 2, 0, 3, 4] rfl))
                      refine lv_if_eq (tgt := 134) hx hb dX6_bestFolds_126 (by decide) (fun hc => ?_) (fun hc => ?_)
                      · have hq := hq.1 hc
                        refine lv_iload_n hx hb dX6_bestFolds_134 rfl (lv_at hl 2 rfl) ?_
                        exact hq _ _ _ hP hD hS (lv_sub hl [1, 0, 3, 4] rfl)
                      · have hq := hq.2 hc
                        refine lv_iload hx hb dX6_bestFolds_129 (lv_at hl 5 rfl) ?_
                        refine lv_goto (tgt := 135) hx hb dX6_bestFolds_131 (by decide) ?_
                        exact hq _ _ _ hP hD hS (lv_sub hl [1, 0, 3, 4] rfl))
                    refine lv_if_eq (tgt := 122) hx hb dX6_bestFolds_106 (by decide) (fun hc => ?_) (fun hc => ?_)
                    · have hq := hq.1 hc
                      refine lv_iload_n hx hb dX6_bestFolds_122 rfl (lv_at hl 2 rfl) ?_
                      exact hq _ _ _ hP hD hS (lv_sub hl [1, 3, 4, 5, 6, 0] rfl)
                    · have hq := hq.2 hc
                      refine lv_bipush (v := 10) hx hb dX6_bestFolds_109 (by decide) ?_
                      refine lv_iload hx hb dX6_bestFolds_111 (lv_at hl 5 rfl) ?_
                      refine lv_imul hx hb dX6_bestFolds_113 ?_
                      refine lv_iload_n hx hb dX6_bestFolds_114 rfl (lv_at hl 4 rfl) ?_
                      refine lv_iadd hx hb dX6_bestFolds_115 ?_
                      refine lv_iload hx hb dX6_bestFolds_116 (lv_at hl 5 rfl) ?_
                      refine lv_isub hx hb dX6_bestFolds_118 ?_
                      refine lv_goto (tgt := 123) hx hb dX6_bestFolds_119 (by decide) ?_
                      exact hq _ _ _ hP hD hS (lv_sub hl [1, 3, 4, 5, 6, 0] rfl))
                  have hq := hq (∀ (H : Heap) (locs : List Loc) (ls : Array Slot), va_P (dC, dI) vwCl [(aM, .inr (5, [.ref aZ, .ref aPast, .int pastMany, .ref aKz, .int isKept, .ref aBuf, .int typed, .ref aStk, .ref aLaid, .int wid__26, .int hei__27, .ref aPcs, .ref aTold, .int toldMany, .int spot, .int wrong])), (aZ, .inl (cI, 207, .inl zz)), (aStk, .inl (cI, 64, .inl stk__28)), (aLaid, .inl (cI, 64, .inl laid__29))] H → va_D A [(aM, .inr (5, [.ref aZ, .ref aPast, .int pastMany, .ref aKz, .int isKept, .ref aBuf, .int typed, .ref aStk, .ref aLaid, .int wid__26, .int hei__27, .ref aPcs, .ref aTold, .int toldMany, .int spot, .int wrong])), (aZ, .inl (cI, 207, .inl zz)), (aStk, .inl (cI, 64, .inl stk__28)), (aLaid, .inl (cI, 64, .inl laid__29))] → va_S A s.heap H locs → lv_has ls 7 [(0, .ref aM), (1, .int v1_8), (2, .int v2_9), (3, .int v3_3), (4, .int v4_10), (5, .int r_30)] → W p l e ({ frames := 3, cells := 0, slots := 0, locals := 74 } : Room) s m ([.ref aM] : List Value).toArray below meth c H locs 0 0 Q (F0 m 101 ls [])) (by
                    intro  hq H locs ls hP hD hS hl
                    refine lv_iconst (v := 0) hx hb dX6_bestFolds_101 (by decide) ?_
                    exact hq _ _ _ hP hD hS (lv_sub hl [0, 1, 2, 3, 4, 5] rfl))
                  refine lv_icmp_eq (tgt := 101) hx hb dX6_bestFolds_82 (by decide) (fun hc => ?_) (fun hc => ?_)
                  · have hq := hq.1 hc
                    exact hq _ _ _ hP hD hS (lv_sub hl [1, 2, 3, 4, 5, 0] rfl)
                  · have hq := hq.2 hc
                    refine lv_iload_n hx hb dX6_bestFolds_85 rfl (lv_at hl 2 rfl) ?_
                    refine lv_bipush (v := -6) hx hb dX6_bestFolds_86 (by decide) ?_
                    have hq := hq (∀ (H : Heap) (locs : List Loc) (ls : Array Slot), va_P (dC, dI) vwCl [(aM, .inr (5, [.ref aZ, .ref aPast, .int pastMany, .ref aKz, .int isKept, .ref aBuf, .int typed, .ref aStk, .ref aLaid, .int wid__26, .int hei__27, .ref aPcs, .ref aTold, .int toldMany, .int spot, .int wrong])), (aZ, .inl (cI, 207, .inl zz)), (aStk, .inl (cI, 64, .inl stk__28)), (aLaid, .inl (cI, 64, .inl laid__29))] H → va_D A [(aM, .inr (5, [.ref aZ, .ref aPast, .int pastMany, .ref aKz, .int isKept, .ref aBuf, .int typed, .ref aStk, .ref aLaid, .int wid__26, .int hei__27, .ref aPcs, .ref aTold, .int toldMany, .int spot, .int wrong])), (aZ, .inl (cI, 207, .inl zz)), (aStk, .inl (cI, 64, .inl stk__28)), (aLaid, .inl (cI, 64, .inl laid__29))] → va_S A s.heap H locs → lv_has ls 7 [(0, .ref aM), (1, .int v1_8), (2, .int v2_9), (3, .int v3_3), (4, .int v4_10), (5, .int r_30)] → W p l e ({ frames := 3, cells := 0, slots := 0, locals := 74 } : Room) s m ([.ref aM] : List Value).toArray below meth c H locs 0 0 Q (F0 m 97 ls [])) (by
                      intro  hq H locs ls hP hD hS hl
                      refine lv_iconst (v := 1) hx hb dX6_bestFolds_97 (by decide) ?_
                      refine lv_goto (tgt := 102) hx hb dX6_bestFolds_98 (by decide) ?_
                      exact hq _ _ _ hP hD hS (lv_sub hl [0, 1, 2, 3, 4, 5] rfl))
                    refine lv_icmp_eq (tgt := 97) hx hb dX6_bestFolds_88 (by decide) (fun hc => ?_) (fun hc => ?_)
                    · have hq := hq.1 hc
                      exact hq _ _ _ hP hD hS (lv_sub hl [1, 2, 3, 4, 5, 0] rfl)
                    · have hq := hq.2 hc
                      refine lv_iload hx hb dX6_bestFolds_91 (lv_at hl 0 rfl) ?_
                      refine lv_iload_n hx hb dX6_bestFolds_93 rfl (lv_at hl 3 rfl) ?_
                      refine lv_icmp_ge (tgt := 101) hx hb dX6_bestFolds_94 (by decide) (fun hc => ?_) (fun hc => ?_)
                      · have hq := hq.1 hc
                        exact hq _ _ _ hP hD hS (lv_sub hl [1, 2, 3, 4, 5, 0] rfl)
                      · have hq := hq.2 hc
                        exact hq _ _ _ hP hD hS (lv_sub hl [1, 2, 3, 4, 5, 0] rfl)
                · have hq := hq.2 hc
                  refine lv_aload_n hx hb dX6_bestFolds_50 rfl (lv_at hl 0 rfl) ?_
                  refine lv_iload hx hb dX6_bestFolds_51 (lv_at hl 5 rfl) ?_
                  refine lv_iload hx hb dX6_bestFolds_53 (lv_at hl 4 rfl) ?_
                  have hq := hq (fun (t_34 : Int32) => ∀ (H : Heap) (locs : List Loc) (ls : Array Slot), va_P (dC, dI) vwCl [(aM, .inr (5, [.ref aZ, .ref aPast, .int pastMany, .ref aKz, .int isKept, .ref aBuf, .int typed, .ref aStk, .ref aLaid, .int wid__26, .int hei__27, .ref aPcs, .ref aTold, .int toldMany, .int spot, .int wrong])), (aZ, .inl (cI, 207, .inl zz)), (aStk, .inl (cI, 64, .inl stk__28)), (aLaid, .inl (cI, 64, .inl laid__29))] H → va_D A [(aM, .inr (5, [.ref aZ, .ref aPast, .int pastMany, .ref aKz, .int isKept, .ref aBuf, .int typed, .ref aStk, .ref aLaid, .int wid__26, .int hei__27, .ref aPcs, .ref aTold, .int toldMany, .int spot, .int wrong])), (aZ, .inl (cI, 207, .inl zz)), (aStk, .inl (cI, 64, .inl stk__28)), (aLaid, .inl (cI, 64, .inl laid__29))] → va_S A s.heap H locs → lv_has ls 7 [(0, .ref aM), (1, .int v1_8), (2, .int v2_9), (3, .int v3_3), (4, .int v4_10), (5, .int v5_25)] → W p l e ({ frames := 3, cells := 0, slots := 0, locals := 74 } : Room) s m ([.ref aM] : List Value).toArray below meth c H locs 0 0 Q (F0 m 63 ls [.int t_34, .ref aM])) (by
                    intro t_34 hq H locs ls hP hD hS hl
                    have hPc := hP.sub (ws' := [(aM, .inr (5, [.ref aZ, .ref aPast, .int pastMany, .ref aKz, .int isKept, .ref aBuf, .int typed, .ref aStk, .ref aLaid, .int wid__26, .int hei__27, .ref aPcs, .ref aTold, .int toldMany, .int spot, .int wrong])), (aStk, .inl (cI, 64, .inl stk__28)), (aLaid, .inl (cI, 64, .inl laid__29))]) [0, 2, 3] rfl
                    have hDc := hD.sub (ws' := [(aM, .inr (5, [.ref aZ, .ref aPast, .int pastMany, .ref aKz, .int isKept, .ref aBuf, .int typed, .ref aStk, .ref aLaid, .int wid__26, .int hei__27, .ref aPcs, .ref aTold, .int toldMany, .int spot, .int wrong])), (aStk, .inl (cI, 64, .inl stk__28)), (aLaid, .inl (cI, 64, .inl laid__29))]) [0, 2, 3] (by decide) rfl
                    have hFc := va_free (wc := [(aM, .inr (5, [.ref aZ, .ref aPast, .int pastMany, .ref aKz, .int isKept, .ref aBuf, .int typed, .ref aStk, .ref aLaid, .int wid__26, .int hei__27, .ref aPcs, .ref aTold, .int toldMany, .int spot, .int wrong])), (aStk, .inl (cI, 64, .inl stk__28)), (aLaid, .inl (cI, 64, .inl laid__29))]) hD hS hA [0, 2, 3] rfl
                    refine va_callv (va_runV (As := [.int t_34]) (rest := []) ⟨hx, hb, hml, hown, hts⟩ (c_X6_layFold l dC dI cI cC cS aM aZ aPast aKz aBuf aStk aLaid aPcs aTold _ pastMany isKept typed wid__26 hei__27 toldMany spot wrong stk__28 laid__29 t_34 hq) (cwV 1 hts gX6_bestFolds_X6_layFold rfl rfl rfl (by decide +kernel) ⟨Nat.le_of_ble_eq_true rfl, Nat.le_of_ble_eq_true rfl⟩) (gn_preV hPc hK hN hDc (ci := 5) (q0 := 0) rfl rfl) rfl rfl hl.1 rfl (lv_room (Nat.le_of_ble_eq_true rfl)) dX6_bestFolds_63 ⟨Nat.zero_le _, Nat.zero_le _⟩) hS (fun q _ h => hFc q h) hFc (fun u t H1 locs ht hvm hq hB hz1 hk1 hS => ?_)
                    obtain ⟨wid__35, hei__36, stk__37, laid__38⟩ := u
                    obtain ⟨hP1, hK1, hD1⟩ := hB
                    rw [ht] at hP1
                    try dsimp only at hq
                    obtain ⟨hP, hD⟩ := va_join (wr := [(aZ, .inl (cI, 207, .inl zz))]) (w1 := [(aM, .inr (5, [.ref aZ, .ref aPast, .int pastMany, .ref aKz, .int isKept, .ref aBuf, .int typed, .ref aStk, .ref aLaid, .int wid__35, .int hei__36, .ref aPcs, .ref aTold, .int toldMany, .int spot, .int wrong])), (aStk, .inl (cI, 64, .inl stk__37)), (aLaid, .inl (cI, 64, .inl laid__38))]) hP hD [0, 2, 3] [1] rfl rfl (by decide) (by decide) hk1 hFc hP1 hD1
                    have hP := hP.sub (ws' := [(aM, .inr (5, [.ref aZ, .ref aPast, .int pastMany, .ref aKz, .int isKept, .ref aBuf, .int typed, .ref aStk, .ref aLaid, .int wid__35, .int hei__36, .ref aPcs, .ref aTold, .int toldMany, .int spot, .int wrong])), (aZ, .inl (cI, 207, .inl zz)), (aStk, .inl (cI, 64, .inl stk__37)), (aLaid, .inl (cI, 64, .inl laid__38))]) [1, 0, 2, 3] rfl
                    have hD := hD.sub (ws' := [(aM, .inr (5, [.ref aZ, .ref aPast, .int pastMany, .ref aKz, .int isKept, .ref aBuf, .int typed, .ref aStk, .ref aLaid, .int wid__35, .int hei__36, .ref aPcs, .ref aTold, .int toldMany, .int spot, .int wrong])), (aZ, .inl (cI, 207, .inl zz)), (aStk, .inl (cI, 64, .inl stk__37)), (aLaid, .inl (cI, 64, .inl laid__38))]) [1, 0, 2, 3] (by decide) rfl
                    generalize H1 = H at hP hS ⊢
                    refine lv_iinc (v := (v5_25 + (1 : Int32))) (lv' := [(5, .int (v5_25 + (1 : Int32))), (0, .ref aM), (1, .int v1_8), (2, .int v2_9), (3, .int v3_3), (4, .int v4_10)]) hx hb dX6_bestFolds_66 hl (k := 5) rfl rfl (by decide) rfl (fun ls hl => ?_)
                    refine lv_goto (tgt := 44) hx hb dX6_bestFolds_69 (by decide) ?_
                    exact hq _ _ _ hP hD hS (lv_sub hl [1, 2, 3, 4, 5, 0] rfl))
                  refine lv_icmp_ge (tgt := 62) hx hb dX6_bestFolds_55 (by decide) (fun hc => ?_) (fun hc => ?_)
                  · have hq := hq.1 hc
                    refine lv_iconst (v := 2) hx hb dX6_bestFolds_62 (by decide) ?_
                    exact hq _ _ _ hP hD hS (lv_sub hl [0, 1, 2, 3, 4, 5] rfl)
                  · have hq := hq.2 hc
                    refine lv_iconst (v := 0) hx hb dX6_bestFolds_58 (by decide) ?_
                    refine lv_goto (tgt := 63) hx hb dX6_bestFolds_59 (by decide) ?_
                    exact hq _ _ _ hP hD hS (lv_sub hl [0, 1, 2, 3, 4, 5] rfl))
              exact hq _ _ _ hP hD hS (lv_sub hl [1, 2, 3, 4, 5, 0] rfl))
      exact hq _ _ _ hP hD hS (lv_sub hl [1, 2, 3, 4, 0] rfl))
  exact hq _ _ _ hP hD hS (lv_sub hl [3, 2, 1, 0] rfl)
set_option maxRecDepth 20000 in
theorem kwX6_ifPunched_7 : Cond.fieldLink RX6 7 "PunchedFoldsModel" "z" "[I" ∈ wsX6_ifPunched := by decide +kernel
set_option maxRecDepth 20000 in
theorem iwX6_ifPunched_X6 : ∀ w ∈ wsX60, w ∈ wsX6_ifPunched := by decide +kernel
set_option maxRecDepth 20000 in
theorem kwX6_ifPunched_23 : Cond.fieldLink RX6 23 "PunchedFoldsModel" "stacks" "[I" ∈ wsX6_ifPunched := by decide +kernel
set_option maxHeartbeats 4000000 in
set_option maxRecDepth 100000 in
theorem c_X6_ifPunched (l : Launch) (dC : Nat → ClassId) (dI : Nat → Nat → Nat) (cI cC cS : ClassId) (aM : Nat) (aZ : Nat) (aPast : Nat) (aKz : Nat) (aBuf : Nat) (aStk : Nat) (aLaid : Nat) (aPcs : Nat) (aTold : Nat) (sz : Nat) (pastMany : Int32) (isKept : Int32) (typed : Int32) (wid : Int32) (hei : Int32) (toldMany : Int32) (spot : Int32) (wrong : Int32) (zz : Nat → Int32) (stk : Nat → Int32) (laid : Nat → Int32) (pcs : Nat → Int32) (x1 : Int32) (x2 : Int32) {post : Int32 → Int32 → Int32 → (Nat → Int32) → (Nat → Int32) → (Nat → Int32) → (Nat → Int32) → Prop} (hq : wp_X6_ifPunched wid hei zz stk laid pcs x1 x2 post) : Met l yX6_ifPunched wsX6_ifPunched ({ frames := 5, cells := 0, slots := 0, locals := 116 } : Room) (gn_Pre (dC, dI) cI cC cS [.ref aM, .int x1, .int x2] sz [(aM, .inr (5, [.ref aZ, .ref aPast, .int pastMany, .ref aKz, .int isKept, .ref aBuf, .int typed, .ref aStk, .ref aLaid, .int wid, .int hei, .ref aPcs, .ref aTold, .int toldMany, .int spot, .int wrong])), (aZ, .inl (cI, 207, .inl zz)), (aStk, .inl (cI, 64, .inl stk)), (aLaid, .inl (cI, 64, .inl laid)), (aPcs, .inl (cI, 64, .inl pcs))]) (va_Qi (fun (r : Int32) (u : Int32 × Int32 × (Nat → Int32) × (Nat → Int32) × (Nat → Int32) × (Nat → Int32)) => post r u.1 u.2.1 u.2.2.1 u.2.2.2.1 u.2.2.2.2.1 u.2.2.2.2.2) (fun (u : Int32 × Int32 × (Nat → Int32) × (Nat → Int32) × (Nat → Int32) × (Nat → Int32)) t => va_P (dC, dI) vwCl [(aM, .inr (5, [.ref aZ, .ref aPast, .int pastMany, .ref aKz, .int isKept, .ref aBuf, .int typed, .ref aStk, .ref aLaid, .int u.1, .int u.2.1, .ref aPcs, .ref aTold, .int toldMany, .int spot, .int wrong])), (aZ, .inl (cI, 207, .inl u.2.2.1)), (aStk, .inl (cI, 64, .inl u.2.2.2.1)), (aLaid, .inl (cI, 64, .inl u.2.2.2.2.1)), (aPcs, .inl (cI, 64, .inl u.2.2.2.2.2))] t.heap ∧ va_K (dC, dI) vwCl (gn_tys cI cC cS) t ∧ va_D (va_A [(aM, .inr (5, [.ref aZ, .ref aPast, .int pastMany, .ref aKz, .int isKept, .ref aBuf, .int typed, .ref aStk, .ref aLaid, .int wid, .int hei, .ref aPcs, .ref aTold, .int toldMany, .int spot, .int wrong])), (aZ, .inl (cI, 207, .inl zz)), (aStk, .inl (cI, 64, .inl stk)), (aLaid, .inl (cI, 64, .inl laid)), (aPcs, .inl (cI, 64, .inl pcs))] sz) [(aM, .inr (5, [.ref aZ, .ref aPast, .int pastMany, .ref aKz, .int isKept, .ref aBuf, .int typed, .ref aStk, .ref aLaid, .int u.1, .int u.2.1, .ref aPcs, .ref aTold, .int toldMany, .int spot, .int wrong])), (aZ, .inl (cI, 207, .inl u.2.2.1)), (aStk, .inl (cI, 64, .inl u.2.2.2.1)), (aLaid, .inl (cI, 64, .inl u.2.2.2.2.1)), (aPcs, .inl (cI, 64, .inl u.2.2.2.2.2))]) (va_A [(aM, .inr (5, [.ref aZ, .ref aPast, .int pastMany, .ref aKz, .int isKept, .ref aBuf, .int typed, .ref aStk, .ref aLaid, .int wid, .int hei, .ref aPcs, .ref aTold, .int toldMany, .int spot, .int wrong])), (aZ, .inl (cI, 207, .inl zz)), (aStk, .inl (cI, 64, .inl stk)), (aLaid, .inl (cI, 64, .inl laid)), (aPcs, .inl (cI, 64, .inl pcs))] sz)) 0 0 (va_A [(aM, .inr (5, [.ref aZ, .ref aPast, .int pastMany, .ref aKz, .int isKept, .ref aBuf, .int typed, .ref aStk, .ref aLaid, .int wid, .int hei, .ref aPcs, .ref aTold, .int toldMany, .int spot, .int wrong])), (aZ, .inl (cI, 207, .inl zz)), (aStk, .inl (cI, 64, .inl stk)), (aLaid, .inl (cI, 64, .inl laid)), (aPcs, .inl (cI, 64, .inl pcs))] sz) := by
  unfold wp_X6_ifPunched at hq
  refine Met.ofW (cc := cX6_ifPunched) (maxL := 6) (ret := (some .int)) (by decide) rfl ?_
  intro p e s m args below meth c s₁ B hml hv
  obtain ⟨rfl, hsz, hP, hK, hN, hD0⟩ := hv
  have hx := B.exec
  have hb := B.bytes
  have hr := B.returns
  have hts := atoms_spec (ws := wsX6_ifPunched) B.pre
  have hown : s.vm.findClass RX6 = some m.cls := findClass_of_methodNamed B.named
  have hlocks := B.notSynchronized
  subst hsz
  have hD := hD0.self (sz := s.heap.size)
  generalize hAe : va_A [(aM, .inr (5, [.ref aZ, .ref aPast, .int pastMany, .ref aKz, .int isKept, .ref aBuf, .int typed, .ref aStk, .ref aLaid, .int wid, .int hei, .ref aPcs, .ref aTold, .int toldMany, .int spot, .int wrong])), (aZ, .inl (cI, 207, .inl zz)), (aStk, .inl (cI, 64, .inl stk)), (aLaid, .inl (cI, 64, .inl laid)), (aPcs, .inl (cI, 64, .inl pcs))] s.heap.size = A at hD ⊢
  have hA : ∀ q : Nat, s.heap.size ≤ q → A q := fun q h => by rw [← hAe]; exact Or.inr h
  have hS : va_S A s.heap s.heap [] := va_S.rf
  have hl := lv_entry ([.ref aM, .int x1, .int x2] : List Value) (n := 6) (Nat.le_of_ble_eq_true rfl)
  rw [lg_entry_eq]
  generalize (lg_sl ([.ref aM, .int x1, .int x2] : List Value) ++ List.replicate (6 - (lg_sl ([.ref aM, .int x1, .int x2] : List Value)).length) Slot.unset).toArray = ls at hl ⊢
  have hl : lv_has ls 6 [(0, .ref aM), (1, .int x1), (2, .int x2)] := hl
  refine gn_Q (hret := fun Q => ∀ (pc : Nat) (ls : Array Slot) (H : Heap) (locs : List Loc) (r : Int32) (m_wid : Int32) (m_hei : Int32) (m_zz : Nat → Int32) (m_stk : Nat → Int32) (m_laid : Nat → Int32) (m_pcs : Nat → Int32), decode cX6_ifPunched pc = .ok (.ireturn, 1) → va_P (dC, dI) vwCl [(aM, .inr (5, [.ref aZ, .ref aPast, .int pastMany, .ref aKz, .int isKept, .ref aBuf, .int typed, .ref aStk, .ref aLaid, .int m_wid, .int m_hei, .ref aPcs, .ref aTold, .int toldMany, .int spot, .int wrong])), (aZ, .inl (cI, 207, .inl m_zz)), (aStk, .inl (cI, 64, .inl m_stk)), (aLaid, .inl (cI, 64, .inl m_laid)), (aPcs, .inl (cI, 64, .inl m_pcs))] H → va_D A [(aM, .inr (5, [.ref aZ, .ref aPast, .int pastMany, .ref aKz, .int isKept, .ref aBuf, .int typed, .ref aStk, .ref aLaid, .int m_wid, .int m_hei, .ref aPcs, .ref aTold, .int toldMany, .int spot, .int wrong])), (aZ, .inl (cI, 207, .inl m_zz)), (aStk, .inl (cI, 64, .inl m_stk)), (aLaid, .inl (cI, 64, .inl m_laid)), (aPcs, .inl (cI, 64, .inl m_pcs))] → va_S A s.heap H locs → post r m_wid m_hei m_zz m_stk m_laid m_pcs → W p l e ({ frames := 5, cells := 0, slots := 0, locals := 116 } : Room) s m ([.ref aM, .int x1, .int x2] : List Value).toArray below meth c H locs 0 0 Q (F0 m pc ls [.int r])) (fun Q hret => ?_) ?_
  rotate_left
  · intro pc ls H locs r m_wid m_hei m_zz m_stk m_laid m_pcs hdg hP hD hS hpost
    exact W.iret (v := r) hx hb hr (fun t ht hW => ⟨⟨r, (m_wid, m_hei, m_zz, m_stk, m_laid, m_pcs), rfl, hpost, by rw [ht]; exact hP, va_K.moved hW.alike hK, hD⟩, hS.F ht⟩) hS.2.2 hdg
  refine lv_aload_n hx hb dX6_ifPunched_0 rfl (lv_at hl 0 rfl) ?_
  refine lv_iload_n hx hb dX6_ifPunched_1 rfl (lv_at hl 1 rfl) ?_
  refine lv_iload_n hx hb dX6_ifPunched_2 rfl (lv_at hl 2 rfl) ?_
  have hPc := hP.sub (ws' := [(aM, .inr (5, [.ref aZ, .ref aPast, .int pastMany, .ref aKz, .int isKept, .ref aBuf, .int typed, .ref aStk, .ref aLaid, .int wid, .int hei, .ref aPcs, .ref aTold, .int toldMany, .int spot, .int wrong])), (aZ, .inl (cI, 207, .inl zz)), (aStk, .inl (cI, 64, .inl stk)), (aLaid, .inl (cI, 64, .inl laid))]) [0, 1, 2, 3] rfl
  have hDc := hD.sub (ws' := [(aM, .inr (5, [.ref aZ, .ref aPast, .int pastMany, .ref aKz, .int isKept, .ref aBuf, .int typed, .ref aStk, .ref aLaid, .int wid, .int hei, .ref aPcs, .ref aTold, .int toldMany, .int spot, .int wrong])), (aZ, .inl (cI, 207, .inl zz)), (aStk, .inl (cI, 64, .inl stk)), (aLaid, .inl (cI, 64, .inl laid))]) [0, 1, 2, 3] (by decide) rfl
  have hFc := va_free (wc := [(aM, .inr (5, [.ref aZ, .ref aPast, .int pastMany, .ref aKz, .int isKept, .ref aBuf, .int typed, .ref aStk, .ref aLaid, .int wid, .int hei, .ref aPcs, .ref aTold, .int toldMany, .int spot, .int wrong])), (aZ, .inl (cI, 207, .inl zz)), (aStk, .inl (cI, 64, .inl stk)), (aLaid, .inl (cI, 64, .inl laid))]) hD hS hA [0, 1, 2, 3] rfl
  refine va_calli (va_runV (As := [.int x1, .int x2]) (rest := []) ⟨hx, hb, hml, hown, hts⟩ (c_X6_top l dC dI cI cC cS aM aZ aPast aKz aBuf aStk aLaid aPcs aTold _ pastMany isKept typed wid hei toldMany spot wrong zz stk laid x1 x2 hq) (cwV 2 hts gX6_ifPunched_X6_top rfl rfl rfl (by decide +kernel) ⟨Nat.le_of_ble_eq_true rfl, Nat.le_of_ble_eq_true rfl⟩) (gn_preV hPc hK hN hDc (ci := 5) (q0 := 0) rfl rfl) rfl rfl hl.1 rfl (lv_room (Nat.le_of_ble_eq_true rfl)) dX6_ifPunched_3 ⟨Nat.zero_le _, Nat.zero_le _⟩) hS (fun q _ h => hFc q h) hFc (fun r_1 u t H1 locs ht hvm hq hB hz1 hk1 hS => ?_)
  obtain ⟨wid__2, hei__3, stk__4, laid__5⟩ := u
  obtain ⟨hP1, hK1, hD1⟩ := hB
  rw [ht] at hP1
  try dsimp only at hq
  obtain ⟨hP, hD⟩ := va_join (wr := [(aPcs, .inl (cI, 64, .inl pcs))]) (w1 := [(aM, .inr (5, [.ref aZ, .ref aPast, .int pastMany, .ref aKz, .int isKept, .ref aBuf, .int typed, .ref aStk, .ref aLaid, .int wid__2, .int hei__3, .ref aPcs, .ref aTold, .int toldMany, .int spot, .int wrong])), (aZ, .inl (cI, 207, .inl zz)), (aStk, .inl (cI, 64, .inl stk__4)), (aLaid, .inl (cI, 64, .inl laid__5))]) hP hD [0, 1, 2, 3] [4] rfl rfl (by decide) (by decide) hk1 hFc hP1 hD1
  have hP := hP.sub (ws' := [(aM, .inr (5, [.ref aZ, .ref aPast, .int pastMany, .ref aKz, .int isKept, .ref aBuf, .int typed, .ref aStk, .ref aLaid, .int wid__2, .int hei__3, .ref aPcs, .ref aTold, .int toldMany, .int spot, .int wrong])), (aZ, .inl (cI, 207, .inl zz)), (aStk, .inl (cI, 64, .inl stk__4)), (aLaid, .inl (cI, 64, .inl laid__5)), (aPcs, .inl (cI, 64, .inl pcs))]) [1, 2, 3, 4, 0] rfl
  have hD := hD.sub (ws' := [(aM, .inr (5, [.ref aZ, .ref aPast, .int pastMany, .ref aKz, .int isKept, .ref aBuf, .int typed, .ref aStk, .ref aLaid, .int wid__2, .int hei__3, .ref aPcs, .ref aTold, .int toldMany, .int spot, .int wrong])), (aZ, .inl (cI, 207, .inl zz)), (aStk, .inl (cI, 64, .inl stk__4)), (aLaid, .inl (cI, 64, .inl laid__5)), (aPcs, .inl (cI, 64, .inl pcs))]) [1, 2, 3, 4, 0] (by decide) rfl
  generalize H1 = H at hP hS ⊢
  refine lv_istore_n (lv' := [(3, .int r_1), (0, .ref aM), (1, .int x1), (2, .int x2)]) hx hb dX6_ifPunched_6 rfl hl (by decide) rfl (fun ls hl => ?_)
  refine lv_iload_n hx hb dX6_ifPunched_7 rfl (lv_at hl 0 rfl) ?_
  refine lv_bipush (v := -6) hx hb dX6_ifPunched_8 (by decide) ?_
  refine lv_icmp_ne (tgt := 15) hx hb dX6_ifPunched_10 (by decide) (fun hc => ?_) (fun hc => ?_)
  · have hq := hq.1 hc
    refine lv_iconst (v := 0) hx hb dX6_ifPunched_15 (by decide) ?_
    refine lv_istore (lv' := [(4, .int (0 : Int32)), (3, .int r_1), (0, .ref aM), (1, .int x1), (2, .int x2)]) hx hb dX6_ifPunched_16 hl (by decide) rfl (fun ls hl => ?_)
    have hq := hq (fun (v4_6 : Int32) (zz__7 : Nat → Int32) => ∀ (H : Heap) (locs : List Loc) (ls : Array Slot), va_P (dC, dI) vwCl [(aM, .inr (5, [.ref aZ, .ref aPast, .int pastMany, .ref aKz, .int isKept, .ref aBuf, .int typed, .ref aStk, .ref aLaid, .int wid__2, .int hei__3, .ref aPcs, .ref aTold, .int toldMany, .int spot, .int wrong])), (aZ, .inl (cI, 207, .inl zz__7)), (aStk, .inl (cI, 64, .inl stk__4)), (aLaid, .inl (cI, 64, .inl laid__5)), (aPcs, .inl (cI, 64, .inl pcs))] H → va_D A [(aM, .inr (5, [.ref aZ, .ref aPast, .int pastMany, .ref aKz, .int isKept, .ref aBuf, .int typed, .ref aStk, .ref aLaid, .int wid__2, .int hei__3, .ref aPcs, .ref aTold, .int toldMany, .int spot, .int wrong])), (aZ, .inl (cI, 207, .inl zz__7)), (aStk, .inl (cI, 64, .inl stk__4)), (aLaid, .inl (cI, 64, .inl laid__5)), (aPcs, .inl (cI, 64, .inl pcs))] → va_S A s.heap H locs → lv_has ls 6 [(0, .ref aM), (3, .int r_1), (4, .int v4_6)] → W p l e ({ frames := 5, cells := 0, slots := 0, locals := 116 } : Room) s m ([.ref aM, .int x1, .int x2] : List Value).toArray below meth c H locs 0 0 Q (F0 m 18 ls [])) (by
      intro v4_6 zz__7 hq H locs ls hP hD hS hl
      refine lv_iload hx hb dX6_ifPunched_18 (lv_at hl 2 rfl) ?_
      refine lv_aload_n hx hb dX6_ifPunched_20 rfl (lv_at hl 0 rfl) ?_
      have hPc := hP.sub (ws' := [(aM, .inr (5, [.ref aZ, .ref aPast, .int pastMany, .ref aKz, .int isKept, .ref aBuf, .int typed, .ref aStk, .ref aLaid, .int wid__2, .int hei__3, .ref aPcs, .ref aTold, .int toldMany, .int spot, .int wrong]))]) [0] rfl
      have hDc := hD.sub (ws' := [(aM, .inr (5, [.ref aZ, .ref aPast, .int pastMany, .ref aKz, .int isKept, .ref aBuf, .int typed, .ref aStk, .ref aLaid, .int wid__2, .int hei__3, .ref aPcs, .ref aTold, .int toldMany, .int spot, .int wrong]))]) [0] (by decide) rfl
      have hFc := va_free (wc := [(aM, .inr (5, [.ref aZ, .ref aPast, .int pastMany, .ref aKz, .int isKept, .ref aBuf, .int typed, .ref aStk, .ref aLaid, .int wid__2, .int hei__3, .ref aPcs, .ref aTold, .int toldMany, .int spot, .int wrong]))]) hD hS hA [0] rfl
      refine va_calli (va_runV (As := []) (rest := [.int v4_6]) ⟨hx, hb, hml, hown, hts⟩ (c_X6_layers l dC dI cI cC cS aM aZ aPast aKz aBuf aStk aLaid aPcs aTold _ pastMany isKept typed wid__2 hei__3 toldMany spot wrong hq) (cwV 0 hts gX6_ifPunched_X6_layers rfl rfl rfl (by decide +kernel) ⟨Nat.le_of_ble_eq_true rfl, Nat.le_of_ble_eq_true rfl⟩) (gn_preV hPc hK hN hDc (ci := 5) (q0 := 0) rfl rfl) rfl rfl hl.1 rfl (lv_room (Nat.le_of_ble_eq_true rfl)) dX6_ifPunched_21 ⟨Nat.zero_le _, Nat.zero_le _⟩) hS (fun q _ h => hFc q h) hFc (fun r_8 u t H1 locs ht hvm hq hB hz1 hk1 hS => ?_)
      obtain ⟨hP1, hK1, hD1⟩ := hB
      rw [ht] at hP1
      try dsimp only at hq
      obtain ⟨hP, hD⟩ := va_join (wr := [(aZ, .inl (cI, 207, .inl zz__7)), (aStk, .inl (cI, 64, .inl stk__4)), (aLaid, .inl (cI, 64, .inl laid__5)), (aPcs, .inl (cI, 64, .inl pcs))]) (w1 := [(aM, .inr (5, [.ref aZ, .ref aPast, .int pastMany, .ref aKz, .int isKept, .ref aBuf, .int typed, .ref aStk, .ref aLaid, .int wid__2, .int hei__3, .ref aPcs, .ref aTold, .int toldMany, .int spot, .int wrong]))]) hP hD [0] [1, 2, 3, 4] rfl rfl (by decide) (by decide) hk1 hFc hP1 hD1
      have hP := hP.sub (ws' := [(aM, .inr (5, [.ref aZ, .ref aPast, .int pastMany, .ref aKz, .int isKept, .ref aBuf, .int typed, .ref aStk, .ref aLaid, .int wid__2, .int hei__3, .ref aPcs, .ref aTold, .int toldMany, .int spot, .int wrong])), (aZ, .inl (cI, 207, .inl zz__7)), (aStk, .inl (cI, 64, .inl stk__4)), (aLaid, .inl (cI, 64, .inl laid__5)), (aPcs, .inl (cI, 64, .inl pcs))]) [4, 0, 1, 2, 3] rfl
      have hD := hD.sub (ws' := [(aM, .inr (5, [.ref aZ, .ref aPast, .int pastMany, .ref aKz, .int isKept, .ref aBuf, .int typed, .ref aStk, .ref aLaid, .int wid__2, .int hei__3, .ref aPcs, .ref aTold, .int toldMany, .int spot, .int wrong])), (aZ, .inl (cI, 207, .inl zz__7)), (aStk, .inl (cI, 64, .inl stk__4)), (aLaid, .inl (cI, 64, .inl laid__5)), (aPcs, .inl (cI, 64, .inl pcs))]) [4, 0, 1, 2, 3] (by decide) rfl
      generalize H1 = H at hP hS ⊢
      refine lv_icmp_ge (tgt := 56) hx hb dX6_ifPunched_24 (by decide) (fun hc => ?_) (fun hc => ?_)
      · have hq := hq.1 hc
        refine lv_aload_n hx hb dX6_ifPunched_56 rfl (lv_at hl 0 rfl) ?_
        have hPc := hP.sub (ws' := [(aM, .inr (5, [.ref aZ, .ref aPast, .int pastMany, .ref aKz, .int isKept, .ref aBuf, .int typed, .ref aStk, .ref aLaid, .int wid__2, .int hei__3, .ref aPcs, .ref aTold, .int toldMany, .int spot, .int wrong])), (aZ, .inl (cI, 207, .inl zz__7)), (aPcs, .inl (cI, 64, .inl pcs))]) [0, 1, 4] rfl
        have hDc := hD.sub (ws' := [(aM, .inr (5, [.ref aZ, .ref aPast, .int pastMany, .ref aKz, .int isKept, .ref aBuf, .int typed, .ref aStk, .ref aLaid, .int wid__2, .int hei__3, .ref aPcs, .ref aTold, .int toldMany, .int spot, .int wrong])), (aZ, .inl (cI, 207, .inl zz__7)), (aPcs, .inl (cI, 64, .inl pcs))]) [0, 1, 4] (by decide) rfl
        have hFc := va_free (wc := [(aM, .inr (5, [.ref aZ, .ref aPast, .int pastMany, .ref aKz, .int isKept, .ref aBuf, .int typed, .ref aStk, .ref aLaid, .int wid__2, .int hei__3, .ref aPcs, .ref aTold, .int toldMany, .int spot, .int wrong])), (aZ, .inl (cI, 207, .inl zz__7)), (aPcs, .inl (cI, 64, .inl pcs))]) hD hS hA [0, 1, 4] rfl
        refine va_calli (va_runV (As := []) (rest := []) ⟨hx, hb, hml, hown, hts⟩ (c_X6_pieceMany l dC dI cI cC cS aM aZ aPast aKz aBuf aStk aLaid aPcs aTold _ pastMany isKept typed wid__2 hei__3 toldMany spot wrong zz__7 pcs hq) (cwV 0 hts gX6_ifPunched_X6_pieceMany rfl rfl rfl (by decide +kernel) ⟨Nat.le_of_ble_eq_true rfl, Nat.le_of_ble_eq_true rfl⟩) (gn_preV hPc hK hN hDc (ci := 5) (q0 := 0) rfl rfl) rfl rfl hl.1 rfl (lv_room (Nat.le_of_ble_eq_true rfl)) dX6_ifPunched_57 ⟨Nat.zero_le _, Nat.zero_le _⟩) hS (fun q _ h => hFc q h) hFc (fun r_9 u t H1 locs ht hvm hq hB hz1 hk1 hS => ?_)
        obtain ⟨pcs__10, rfl⟩ : ∃ z, z = u := ⟨_, rfl⟩
        obtain ⟨hP1, hK1, hD1⟩ := hB
        rw [ht] at hP1
        try dsimp only at hq
        obtain ⟨hP, hD⟩ := va_join (wr := [(aStk, .inl (cI, 64, .inl stk__4)), (aLaid, .inl (cI, 64, .inl laid__5))]) (w1 := [(aM, .inr (5, [.ref aZ, .ref aPast, .int pastMany, .ref aKz, .int isKept, .ref aBuf, .int typed, .ref aStk, .ref aLaid, .int wid__2, .int hei__3, .ref aPcs, .ref aTold, .int toldMany, .int spot, .int wrong])), (aZ, .inl (cI, 207, .inl zz__7)), (aPcs, .inl (cI, 64, .inl pcs__10))]) hP hD [0, 1, 4] [2, 3] rfl rfl (by decide) (by decide) hk1 hFc hP1 hD1
        have hP := hP.sub (ws' := [(aM, .inr (5, [.ref aZ, .ref aPast, .int pastMany, .ref aKz, .int isKept, .ref aBuf, .int typed, .ref aStk, .ref aLaid, .int wid__2, .int hei__3, .ref aPcs, .ref aTold, .int toldMany, .int spot, .int wrong])), (aZ, .inl (cI, 207, .inl zz__7)), (aStk, .inl (cI, 64, .inl stk__4)), (aLaid, .inl (cI, 64, .inl laid__5)), (aPcs, .inl (cI, 64, .inl pcs__10))]) [2, 3, 0, 1, 4] rfl
        have hD := hD.sub (ws' := [(aM, .inr (5, [.ref aZ, .ref aPast, .int pastMany, .ref aKz, .int isKept, .ref aBuf, .int typed, .ref aStk, .ref aLaid, .int wid__2, .int hei__3, .ref aPcs, .ref aTold, .int toldMany, .int spot, .int wrong])), (aZ, .inl (cI, 207, .inl zz__7)), (aStk, .inl (cI, 64, .inl stk__4)), (aLaid, .inl (cI, 64, .inl laid__5)), (aPcs, .inl (cI, 64, .inl pcs__10))]) [2, 3, 0, 1, 4] (by decide) rfl
        generalize H1 = H at hP hS ⊢
        refine lv_istore (lv' := [(4, .int r_9), (0, .ref aM), (3, .int r_1)]) hx hb dX6_ifPunched_60 hl (by decide) rfl (fun ls hl => ?_)
        refine lv_iconst (v := 0) hx hb dX6_ifPunched_62 (by decide) ?_
        refine lv_istore (lv' := [(5, .int (0 : Int32)), (4, .int r_9), (0, .ref aM), (3, .int r_1)]) hx hb dX6_ifPunched_63 hl (by decide) rfl (fun ls hl => ?_)
        have hq := hq (fun (v5_11 : Int32) (zz__12 : Nat → Int32) => ∀ (H : Heap) (locs : List Loc) (ls : Array Slot), va_P (dC, dI) vwCl [(aM, .inr (5, [.ref aZ, .ref aPast, .int pastMany, .ref aKz, .int isKept, .ref aBuf, .int typed, .ref aStk, .ref aLaid, .int wid__2, .int hei__3, .ref aPcs, .ref aTold, .int toldMany, .int spot, .int wrong])), (aZ, .inl (cI, 207, .inl zz__12)), (aStk, .inl (cI, 64, .inl stk__4)), (aLaid, .inl (cI, 64, .inl laid__5)), (aPcs, .inl (cI, 64, .inl pcs__10))] H → va_D A [(aM, .inr (5, [.ref aZ, .ref aPast, .int pastMany, .ref aKz, .int isKept, .ref aBuf, .int typed, .ref aStk, .ref aLaid, .int wid__2, .int hei__3, .ref aPcs, .ref aTold, .int toldMany, .int spot, .int wrong])), (aZ, .inl (cI, 207, .inl zz__12)), (aStk, .inl (cI, 64, .inl stk__4)), (aLaid, .inl (cI, 64, .inl laid__5)), (aPcs, .inl (cI, 64, .inl pcs__10))] → va_S A s.heap H locs → lv_has ls 6 [(0, .ref aM), (3, .int r_1), (4, .int r_9), (5, .int v5_11)] → W p l e ({ frames := 5, cells := 0, slots := 0, locals := 116 } : Room) s m ([.ref aM, .int x1, .int x2] : List Value).toArray below meth c H locs 0 0 Q (F0 m 65 ls [])) (by
          intro v5_11 zz__12 hq H locs ls hP hD hS hl
          refine lv_iload hx hb dX6_ifPunched_65 (lv_at hl 3 rfl) ?_
          refine lv_aload_n hx hb dX6_ifPunched_67 rfl (lv_at hl 0 rfl) ?_
          have hPc := hP.sub (ws' := [(aM, .inr (5, [.ref aZ, .ref aPast, .int pastMany, .ref aKz, .int isKept, .ref aBuf, .int typed, .ref aStk, .ref aLaid, .int wid__2, .int hei__3, .ref aPcs, .ref aTold, .int toldMany, .int spot, .int wrong]))]) [0] rfl
          have hDc := hD.sub (ws' := [(aM, .inr (5, [.ref aZ, .ref aPast, .int pastMany, .ref aKz, .int isKept, .ref aBuf, .int typed, .ref aStk, .ref aLaid, .int wid__2, .int hei__3, .ref aPcs, .ref aTold, .int toldMany, .int spot, .int wrong]))]) [0] (by decide) rfl
          have hFc := va_free (wc := [(aM, .inr (5, [.ref aZ, .ref aPast, .int pastMany, .ref aKz, .int isKept, .ref aBuf, .int typed, .ref aStk, .ref aLaid, .int wid__2, .int hei__3, .ref aPcs, .ref aTold, .int toldMany, .int spot, .int wrong]))]) hD hS hA [0] rfl
          refine va_calli (va_runV (As := []) (rest := [.int v5_11]) ⟨hx, hb, hml, hown, hts⟩ (c_X6_layers l dC dI cI cC cS aM aZ aPast aKz aBuf aStk aLaid aPcs aTold _ pastMany isKept typed wid__2 hei__3 toldMany spot wrong hq) (cwV 0 hts gX6_ifPunched_X6_layers rfl rfl rfl (by decide +kernel) ⟨Nat.le_of_ble_eq_true rfl, Nat.le_of_ble_eq_true rfl⟩) (gn_preV hPc hK hN hDc (ci := 5) (q0 := 0) rfl rfl) rfl rfl hl.1 rfl (lv_room (Nat.le_of_ble_eq_true rfl)) dX6_ifPunched_68 ⟨Nat.zero_le _, Nat.zero_le _⟩) hS (fun q _ h => hFc q h) hFc (fun r_13 u t H1 locs ht hvm hq hB hz1 hk1 hS => ?_)
          obtain ⟨hP1, hK1, hD1⟩ := hB
          rw [ht] at hP1
          try dsimp only at hq
          obtain ⟨hP, hD⟩ := va_join (wr := [(aZ, .inl (cI, 207, .inl zz__12)), (aStk, .inl (cI, 64, .inl stk__4)), (aLaid, .inl (cI, 64, .inl laid__5)), (aPcs, .inl (cI, 64, .inl pcs__10))]) (w1 := [(aM, .inr (5, [.ref aZ, .ref aPast, .int pastMany, .ref aKz, .int isKept, .ref aBuf, .int typed, .ref aStk, .ref aLaid, .int wid__2, .int hei__3, .ref aPcs, .ref aTold, .int toldMany, .int spot, .int wrong]))]) hP hD [0] [1, 2, 3, 4] rfl rfl (by decide) (by decide) hk1 hFc hP1 hD1
          have hP := hP.sub (ws' := [(aM, .inr (5, [.ref aZ, .ref aPast, .int pastMany, .ref aKz, .int isKept, .ref aBuf, .int typed, .ref aStk, .ref aLaid, .int wid__2, .int hei__3, .ref aPcs, .ref aTold, .int toldMany, .int spot, .int wrong])), (aZ, .inl (cI, 207, .inl zz__12)), (aStk, .inl (cI, 64, .inl stk__4)), (aLaid, .inl (cI, 64, .inl laid__5)), (aPcs, .inl (cI, 64, .inl pcs__10))]) [4, 0, 1, 2, 3] rfl
          have hD := hD.sub (ws' := [(aM, .inr (5, [.ref aZ, .ref aPast, .int pastMany, .ref aKz, .int isKept, .ref aBuf, .int typed, .ref aStk, .ref aLaid, .int wid__2, .int hei__3, .ref aPcs, .ref aTold, .int toldMany, .int spot, .int wrong])), (aZ, .inl (cI, 207, .inl zz__12)), (aStk, .inl (cI, 64, .inl stk__4)), (aLaid, .inl (cI, 64, .inl laid__5)), (aPcs, .inl (cI, 64, .inl pcs__10))]) [4, 0, 1, 2, 3] (by decide) rfl
          generalize H1 = H at hP hS ⊢
          refine lv_icmp_ge (tgt := 103) hx hb dX6_ifPunched_71 (by decide) (fun hc => ?_) (fun hc => ?_)
          · have hq := hq.1 hc
            refine lv_iload hx hb dX6_ifPunched_103 (lv_at hl 2 rfl) ?_
            exact hret _ _ _ _ _ _ _ _ _ _ _ dX6_ifPunched_105 hP hD hS hq
          · have hq := hq.2 hc
            refine lv_aload_n hx hb dX6_ifPunched_74 rfl (lv_at hl 0 rfl) ?_
            refine va_get (D := (dC, dI)) (ci := 5) (v := .ref aZ) (C := RX6) (T := TX6) (N := 16) hx hb hts iwX6_ifPunched_X6 hown hK hP 0 rfl rfl 0 (by decide) (hts _ kwX6_ifPunched_7) (fun _ h9 => h9) rfl dX6_ifPunched_75 ?_
            refine lv_bipush (v := 7) hx hb dX6_ifPunched_78 (by decide) ?_
            refine lv_aload_n hx hb dX6_ifPunched_80 rfl (lv_at hl 0 rfl) ?_
            refine va_get (D := (dC, dI)) (ci := 5) (v := .ref aStk) (C := RX6) (T := TX6) (N := 16) hx hb hts iwX6_ifPunched_X6 hown hK hP 0 rfl rfl 7 (by decide) (hts _ kwX6_ifPunched_23) (fun _ h9 => h9) rfl dX6_ifPunched_81 ?_
            refine lv_iload_n hx hb dX6_ifPunched_84 rfl (lv_at hl 1 rfl) ?_
            refine lv_iload hx hb dX6_ifPunched_85 (lv_at hl 3 rfl) ?_
            refine lv_iadd hx hb dX6_ifPunched_87 ?_
            have hin := hq.1
            have hq := hq.2
            refine va_iald hx hb hK hP 2 0 rfl rfl hin dX6_ifPunched_88 ?_
            refine lv_iconst (v := 2) hx hb dX6_ifPunched_89 (by decide) ?_
            refine lv_idiv hx hb dX6_ifPunched_90 (by decide) ?_
            refine lv_iadd hx hb dX6_ifPunched_91 ?_
            refine lv_dup2_11 hx hb dX6_ifPunched_92 rfl rfl ?_
            have hin := hq.1
            have hq := hq.2
            refine va_iald hx hb hK hP 1 0 rfl rfl hin dX6_ifPunched_93 ?_
            refine lv_iconst (v := 2) hx hb dX6_ifPunched_94 (by decide) ?_
            refine lv_isub hx hb dX6_ifPunched_95 ?_
            have hin := hq.1
            have hq := hq.2
            refine va_iast hx hb hK hP hD hS 1 0 rfl rfl hin dX6_ifPunched_96 (fun H locs hP hD hS => ?_)
            have hP : va_P (dC, dI) vwCl [(aM, .inr (5, [.ref aZ, .ref aPast, .int pastMany, .ref aKz, .int isKept, .ref aBuf, .int typed, .ref aStk, .ref aLaid, .int wid__2, .int hei__3, .ref aPcs, .ref aTold, .int toldMany, .int spot, .int wrong])), (aZ, .inl (cI, 207, .inl (upd zz__12 (((7 : Int32) + ((stk__4 ((r_1 + v5_11)).toNatClampNeg) / (2 : Int32)))).toNatClampNeg ((zz__12 (((7 : Int32) + ((stk__4 ((r_1 + v5_11)).toNatClampNeg) / (2 : Int32)))).toNatClampNeg) - (2 : Int32))))), (aStk, .inl (cI, 64, .inl stk__4)), (aLaid, .inl (cI, 64, .inl laid__5)), (aPcs, .inl (cI, 64, .inl pcs__10))] H := hP
            have hD : va_D A [(aM, .inr (5, [.ref aZ, .ref aPast, .int pastMany, .ref aKz, .int isKept, .ref aBuf, .int typed, .ref aStk, .ref aLaid, .int wid__2, .int hei__3, .ref aPcs, .ref aTold, .int toldMany, .int spot, .int wrong])), (aZ, .inl (cI, 207, .inl (upd zz__12 (((7 : Int32) + ((stk__4 ((r_1 + v5_11)).toNatClampNeg) / (2 : Int32)))).toNatClampNeg ((zz__12 (((7 : Int32) + ((stk__4 ((r_1 + v5_11)).toNatClampNeg) / (2 : Int32)))).toNatClampNeg) - (2 : Int32))))), (aStk, .inl (cI, 64, .inl stk__4)), (aLaid, .inl (cI, 64, .inl laid__5)), (aPcs, .inl (cI, 64, .inl pcs__10))] := hD
            refine lv_iinc (v := (v5_11 + (1 : Int32))) (lv' := [(5, .int (v5_11 + (1 : Int32))), (0, .ref aM), (3, .int r_1), (4, .int r_9)]) hx hb dX6_ifPunched_97 hl (k := 3) rfl rfl (by decide) rfl (fun ls hl => ?_)
            refine lv_goto (tgt := 65) hx hb dX6_ifPunched_100 (by decide) ?_
            exact hq _ _ _ hP hD hS (lv_sub hl [1, 2, 3, 0] rfl))
        exact hq _ _ _ hP hD hS (lv_sub hl [2, 3, 1, 0] rfl)
      · have hq := hq.2 hc
        refine lv_aload_n hx hb dX6_ifPunched_27 rfl (lv_at hl 0 rfl) ?_
        refine va_get (D := (dC, dI)) (ci := 5) (v := .ref aZ) (C := RX6) (T := TX6) (N := 16) hx hb hts iwX6_ifPunched_X6 hown hK hP 0 rfl rfl 0 (by decide) (hts _ kwX6_ifPunched_7) (fun _ h9 => h9) rfl dX6_ifPunched_28 ?_
        refine lv_bipush (v := 7) hx hb dX6_ifPunched_31 (by decide) ?_
        refine lv_aload_n hx hb dX6_ifPunched_33 rfl (lv_at hl 0 rfl) ?_
        refine va_get (D := (dC, dI)) (ci := 5) (v := .ref aStk) (C := RX6) (T := TX6) (N := 16) hx hb hts iwX6_ifPunched_X6 hown hK hP 0 rfl rfl 7 (by decide) (hts _ kwX6_ifPunched_23) (fun _ h9 => h9) rfl dX6_ifPunched_34 ?_
        refine lv_iload_n hx hb dX6_ifPunched_37 rfl (lv_at hl 1 rfl) ?_
        refine lv_iload hx hb dX6_ifPunched_38 (lv_at hl 2 rfl) ?_
        refine lv_iadd hx hb dX6_ifPunched_40 ?_
        have hin := hq.1
        have hq := hq.2
        refine va_iald hx hb hK hP 2 0 rfl rfl hin dX6_ifPunched_41 ?_
        refine lv_iconst (v := 2) hx hb dX6_ifPunched_42 (by decide) ?_
        refine lv_idiv hx hb dX6_ifPunched_43 (by decide) ?_
        refine lv_iadd hx hb dX6_ifPunched_44 ?_
        refine lv_dup2_11 hx hb dX6_ifPunched_45 rfl rfl ?_
        have hin := hq.1
        have hq := hq.2
        refine va_iald hx hb hK hP 1 0 rfl rfl hin dX6_ifPunched_46 ?_
        refine lv_iconst (v := 2) hx hb dX6_ifPunched_47 (by decide) ?_
        refine lv_iadd hx hb dX6_ifPunched_48 ?_
        have hin := hq.1
        have hq := hq.2
        refine va_iast hx hb hK hP hD hS 1 0 rfl rfl hin dX6_ifPunched_49 (fun H locs hP hD hS => ?_)
        have hP : va_P (dC, dI) vwCl [(aM, .inr (5, [.ref aZ, .ref aPast, .int pastMany, .ref aKz, .int isKept, .ref aBuf, .int typed, .ref aStk, .ref aLaid, .int wid__2, .int hei__3, .ref aPcs, .ref aTold, .int toldMany, .int spot, .int wrong])), (aZ, .inl (cI, 207, .inl (upd zz__7 (((7 : Int32) + ((stk__4 ((r_1 + v4_6)).toNatClampNeg) / (2 : Int32)))).toNatClampNeg ((zz__7 (((7 : Int32) + ((stk__4 ((r_1 + v4_6)).toNatClampNeg) / (2 : Int32)))).toNatClampNeg) + (2 : Int32))))), (aStk, .inl (cI, 64, .inl stk__4)), (aLaid, .inl (cI, 64, .inl laid__5)), (aPcs, .inl (cI, 64, .inl pcs))] H := hP
        have hD : va_D A [(aM, .inr (5, [.ref aZ, .ref aPast, .int pastMany, .ref aKz, .int isKept, .ref aBuf, .int typed, .ref aStk, .ref aLaid, .int wid__2, .int hei__3, .ref aPcs, .ref aTold, .int toldMany, .int spot, .int wrong])), (aZ, .inl (cI, 207, .inl (upd zz__7 (((7 : Int32) + ((stk__4 ((r_1 + v4_6)).toNatClampNeg) / (2 : Int32)))).toNatClampNeg ((zz__7 (((7 : Int32) + ((stk__4 ((r_1 + v4_6)).toNatClampNeg) / (2 : Int32)))).toNatClampNeg) + (2 : Int32))))), (aStk, .inl (cI, 64, .inl stk__4)), (aLaid, .inl (cI, 64, .inl laid__5)), (aPcs, .inl (cI, 64, .inl pcs))] := hD
        refine lv_iinc (v := (v4_6 + (1 : Int32))) (lv' := [(4, .int (v4_6 + (1 : Int32))), (0, .ref aM), (3, .int r_1)]) hx hb dX6_ifPunched_50 hl (k := 2) rfl rfl (by decide) rfl (fun ls hl => ?_)
        refine lv_goto (tgt := 18) hx hb dX6_ifPunched_53 (by decide) ?_
        exact hq _ _ _ hP hD hS (lv_sub hl [1, 2, 0] rfl))
    exact hq _ _ _ hP hD hS (lv_sub hl [2, 1, 0] rfl)
  · have hq := hq.2 hc
    refine lv_iconst (v := -1) hx hb dX6_ifPunched_13 (by decide) ?_
    exact hret _ _ _ _ _ _ _ _ _ _ _ dX6_ifPunched_14 hP hD hS hq
set_option maxRecDepth 20000 in
theorem kwX6_append_141 : Cond.fieldLink RX6 141 "PunchedFoldsModel" "typed" "I" ∈ wsX6_append := by decide +kernel
set_option maxRecDepth 20000 in
theorem iwX6_append_X6 : ∀ w ∈ wsX60, w ∈ wsX6_append := by decide +kernel
set_option maxRecDepth 20000 in
theorem kwX6_append_19 : Cond.fieldLink RX6 19 "PunchedFoldsModel" "buffer" "[C" ∈ wsX6_append := by decide +kernel
set_option maxHeartbeats 4000000 in
set_option maxRecDepth 100000 in
theorem c_X6_append (l : Launch) (dC : Nat → ClassId) (dI : Nat → Nat → Nat) (cI cC cS : ClassId) (aM : Nat) (aZ : Nat) (aPast : Nat) (aKz : Nat) (aBuf : Nat) (aStk : Nat) (aLaid : Nat) (aPcs : Nat) (aTold : Nat) (sz : Nat) (pastMany : Int32) (isKept : Int32) (typed : Int32) (wid : Int32) (hei : Int32) (toldMany : Int32) (spot : Int32) (wrong : Int32) (buf : Nat → Int32) (x1 : Int32) {post : Int32 → Int32 → (Nat → Int32) → Prop} (hq : wp_X6_append typed buf x1 post) : Met l yX6_append wsX6_append ({ frames := 1, cells := 0, slots := 0, locals := 22 } : Room) (gn_Pre (dC, dI) cI cC cS [.ref aM, .int x1] sz [(aM, .inr (5, [.ref aZ, .ref aPast, .int pastMany, .ref aKz, .int isKept, .ref aBuf, .int typed, .ref aStk, .ref aLaid, .int wid, .int hei, .ref aPcs, .ref aTold, .int toldMany, .int spot, .int wrong])), (aBuf, .inl (cC, 60, .inl buf))]) (va_Qi (fun (r : Int32) (u : Int32 × (Nat → Int32)) => post r u.1 u.2) (fun (u : Int32 × (Nat → Int32)) t => va_P (dC, dI) vwCl [(aM, .inr (5, [.ref aZ, .ref aPast, .int pastMany, .ref aKz, .int isKept, .ref aBuf, .int u.1, .ref aStk, .ref aLaid, .int wid, .int hei, .ref aPcs, .ref aTold, .int toldMany, .int spot, .int wrong])), (aBuf, .inl (cC, 60, .inl u.2))] t.heap ∧ va_K (dC, dI) vwCl (gn_tys cI cC cS) t ∧ va_D (va_A [(aM, .inr (5, [.ref aZ, .ref aPast, .int pastMany, .ref aKz, .int isKept, .ref aBuf, .int typed, .ref aStk, .ref aLaid, .int wid, .int hei, .ref aPcs, .ref aTold, .int toldMany, .int spot, .int wrong])), (aBuf, .inl (cC, 60, .inl buf))] sz) [(aM, .inr (5, [.ref aZ, .ref aPast, .int pastMany, .ref aKz, .int isKept, .ref aBuf, .int u.1, .ref aStk, .ref aLaid, .int wid, .int hei, .ref aPcs, .ref aTold, .int toldMany, .int spot, .int wrong])), (aBuf, .inl (cC, 60, .inl u.2))]) (va_A [(aM, .inr (5, [.ref aZ, .ref aPast, .int pastMany, .ref aKz, .int isKept, .ref aBuf, .int typed, .ref aStk, .ref aLaid, .int wid, .int hei, .ref aPcs, .ref aTold, .int toldMany, .int spot, .int wrong])), (aBuf, .inl (cC, 60, .inl buf))] sz)) 0 0 (va_A [(aM, .inr (5, [.ref aZ, .ref aPast, .int pastMany, .ref aKz, .int isKept, .ref aBuf, .int typed, .ref aStk, .ref aLaid, .int wid, .int hei, .ref aPcs, .ref aTold, .int toldMany, .int spot, .int wrong])), (aBuf, .inl (cC, 60, .inl buf))] sz) := by
  unfold wp_X6_append at hq
  refine Met.ofW (cc := cX6_append) (maxL := 2) (ret := (some .int)) (by decide) rfl ?_
  intro p e s m args below meth c s₁ B hml hv
  obtain ⟨rfl, hsz, hP, hK, hN, hD0⟩ := hv
  have hx := B.exec
  have hb := B.bytes
  have hr := B.returns
  have hts := atoms_spec (ws := wsX6_append) B.pre
  have hown : s.vm.findClass RX6 = some m.cls := findClass_of_methodNamed B.named
  have hlocks := B.notSynchronized
  subst hsz
  have hD := hD0.self (sz := s.heap.size)
  generalize hAe : va_A [(aM, .inr (5, [.ref aZ, .ref aPast, .int pastMany, .ref aKz, .int isKept, .ref aBuf, .int typed, .ref aStk, .ref aLaid, .int wid, .int hei, .ref aPcs, .ref aTold, .int toldMany, .int spot, .int wrong])), (aBuf, .inl (cC, 60, .inl buf))] s.heap.size = A at hD ⊢
  have hA : ∀ q : Nat, s.heap.size ≤ q → A q := fun q h => by rw [← hAe]; exact Or.inr h
  have hS : va_S A s.heap s.heap [] := va_S.rf
  have hl := lv_entry ([.ref aM, .int x1] : List Value) (n := 2) (Nat.le_of_ble_eq_true rfl)
  rw [lg_entry_eq]
  generalize (lg_sl ([.ref aM, .int x1] : List Value) ++ List.replicate (2 - (lg_sl ([.ref aM, .int x1] : List Value)).length) Slot.unset).toArray = ls at hl ⊢
  have hl : lv_has ls 2 [(0, .ref aM), (1, .int x1)] := hl
  refine gn_Q (hret := fun Q => ∀ (pc : Nat) (ls : Array Slot) (H : Heap) (locs : List Loc) (r : Int32) (m_typed : Int32) (m_buf : Nat → Int32), decode cX6_append pc = .ok (.ireturn, 1) → va_P (dC, dI) vwCl [(aM, .inr (5, [.ref aZ, .ref aPast, .int pastMany, .ref aKz, .int isKept, .ref aBuf, .int m_typed, .ref aStk, .ref aLaid, .int wid, .int hei, .ref aPcs, .ref aTold, .int toldMany, .int spot, .int wrong])), (aBuf, .inl (cC, 60, .inl m_buf))] H → va_D A [(aM, .inr (5, [.ref aZ, .ref aPast, .int pastMany, .ref aKz, .int isKept, .ref aBuf, .int m_typed, .ref aStk, .ref aLaid, .int wid, .int hei, .ref aPcs, .ref aTold, .int toldMany, .int spot, .int wrong])), (aBuf, .inl (cC, 60, .inl m_buf))] → va_S A s.heap H locs → post r m_typed m_buf → W p l e ({ frames := 1, cells := 0, slots := 0, locals := 22 } : Room) s m ([.ref aM, .int x1] : List Value).toArray below meth c H locs 0 0 Q (F0 m pc ls [.int r])) (fun Q hret => ?_) ?_
  rotate_left
  · intro pc ls H locs r m_typed m_buf hdg hP hD hS hpost
    exact W.iret (v := r) hx hb hr (fun t ht hW => ⟨⟨r, (m_typed, m_buf), rfl, hpost, by rw [ht]; exact hP, va_K.moved hW.alike hK, hD⟩, hS.F ht⟩) hS.2.2 hdg
  refine lv_iload_n hx hb dX6_append_0 rfl (lv_at hl 1 rfl) ?_
  refine lv_bipush (v := 33) hx hb dX6_append_1 (by decide) ?_
  refine lv_bipush (v := 126) hx hb dX6_append_3 (by decide) ?_
  have hPc := hP.sub (ws' := []) [] rfl
  have hDc := hD.sub (ws' := []) [] (by decide) rfl
  have hFc := va_free (wc := []) hD hS hA [] rfl
  refine va_calli (va_runS (As := [.int x1, .int (33 : Int32), .int (126 : Int32)]) (rest := []) ⟨hx, hb, hml, hown, hts⟩ (c_X6_in l dC dI cI cC cS _ x1 (33 : Int32) (126 : Int32) hq) (va_cwS 3 hts gX6_append_X6_in rfl rfl rfl (by decide +kernel) ⟨Nat.le_of_ble_eq_true rfl, Nat.le_of_ble_eq_true rfl⟩) (gn_preS hPc hK hN hDc) rfl rfl hl.1 rfl (lv_room (Nat.le_of_ble_eq_true rfl)) dX6_append_5 ⟨Nat.zero_le _, Nat.zero_le _⟩) hS (fun q _ h => hFc q h) hFc (fun r_1 u t H1 locs ht hvm hq hB hz1 hk1 hS => ?_)
  obtain ⟨hP1, hK1, hD1⟩ := hB
  rw [ht] at hP1
  try dsimp only at hq
  obtain ⟨hP, hD⟩ := va_join (wr := [(aM, .inr (5, [.ref aZ, .ref aPast, .int pastMany, .ref aKz, .int isKept, .ref aBuf, .int typed, .ref aStk, .ref aLaid, .int wid, .int hei, .ref aPcs, .ref aTold, .int toldMany, .int spot, .int wrong])), (aBuf, .inl (cC, 60, .inl buf))]) (w1 := []) hP hD [] [0, 1] rfl rfl (by decide) (by decide) hk1 hFc hP1 hD1
  have hP := hP.sub (ws' := [(aM, .inr (5, [.ref aZ, .ref aPast, .int pastMany, .ref aKz, .int isKept, .ref aBuf, .int typed, .ref aStk, .ref aLaid, .int wid, .int hei, .ref aPcs, .ref aTold, .int toldMany, .int spot, .int wrong])), (aBuf, .inl (cC, 60, .inl buf))]) [0, 1] rfl
  have hD := hD.sub (ws' := [(aM, .inr (5, [.ref aZ, .ref aPast, .int pastMany, .ref aKz, .int isKept, .ref aBuf, .int typed, .ref aStk, .ref aLaid, .int wid, .int hei, .ref aPcs, .ref aTold, .int toldMany, .int spot, .int wrong])), (aBuf, .inl (cC, 60, .inl buf))]) [0, 1] (by decide) rfl
  generalize H1 = H at hP hS ⊢
  refine lv_if_ne (tgt := 14) hx hb dX6_append_8 (by decide) (fun hc => ?_) (fun hc => ?_)
  · have hq := hq.1 hc
    refine lv_aload_n hx hb dX6_append_14 rfl (lv_at hl 0 rfl) ?_
    refine va_get (D := (dC, dI)) (ci := 5) (v := .int typed) (C := RX6) (T := TX6) (N := 16) hx hb hts iwX6_append_X6 hown hK hP 0 rfl rfl 6 (by decide) (hts _ kwX6_append_141) (fun _ h9 => h9) rfl dX6_append_15 ?_
    refine lv_bipush (v := 60) hx hb dX6_append_18 (by decide) ?_
    refine lv_icmp_ne (tgt := 26) hx hb dX6_append_20 (by decide) (fun hc => ?_) (fun hc => ?_)
    · have hq := hq.1 hc
      refine lv_aload_n hx hb dX6_append_26 rfl (lv_at hl 0 rfl) ?_
      refine va_get (D := (dC, dI)) (ci := 5) (v := .ref aBuf) (C := RX6) (T := TX6) (N := 16) hx hb hts iwX6_append_X6 hown hK hP 0 rfl rfl 5 (by decide) (hts _ kwX6_append_19) (fun _ h9 => h9) rfl dX6_append_27 ?_
      refine lv_aload_n hx hb dX6_append_30 rfl (lv_at hl 0 rfl) ?_
      refine va_get (D := (dC, dI)) (ci := 5) (v := .int typed) (C := RX6) (T := TX6) (N := 16) hx hb hts iwX6_append_X6 hown hK hP 0 rfl rfl 6 (by decide) (hts _ kwX6_append_141) (fun _ h9 => h9) rfl dX6_append_31 ?_
      refine lv_iload_n hx hb dX6_append_34 rfl (lv_at hl 1 rfl) ?_
      refine lv_i2c hx hb dX6_append_35 rfl ?_
      have hin := hq.1
      have hq := hq.2
      refine va_cast hx hb hK hP hD hS 1 1 rfl rfl hin dX6_append_36 (fun H locs hP hD hS => ?_)
      have hP : va_P (dC, dI) vwCl [(aM, .inr (5, [.ref aZ, .ref aPast, .int pastMany, .ref aKz, .int isKept, .ref aBuf, .int typed, .ref aStk, .ref aLaid, .int wid, .int hei, .ref aPcs, .ref aTold, .int toldMany, .int spot, .int wrong])), (aBuf, .inl (cC, 60, .inl (upd buf (typed).toNatClampNeg (vp_nar .char (((x1).toUInt32 % 65536).toInt32)))))] H := hP
      have hD : va_D A [(aM, .inr (5, [.ref aZ, .ref aPast, .int pastMany, .ref aKz, .int isKept, .ref aBuf, .int typed, .ref aStk, .ref aLaid, .int wid, .int hei, .ref aPcs, .ref aTold, .int toldMany, .int spot, .int wrong])), (aBuf, .inl (cC, 60, .inl (upd buf (typed).toNatClampNeg (vp_nar .char (((x1).toUInt32 % 65536).toInt32)))))] := hD
      refine lv_aload_n hx hb dX6_append_37 rfl (lv_at hl 0 rfl) ?_
      refine lv_dup hx hb dX6_append_38 rfl ?_
      refine va_get (D := (dC, dI)) (ci := 5) (v := .int typed) (C := RX6) (T := TX6) (N := 16) hx hb hts iwX6_append_X6 hown hK hP 0 rfl rfl 6 (by decide) (hts _ kwX6_append_141) (fun _ h9 => h9) rfl dX6_append_39 ?_
      refine lv_iconst (v := 1) hx hb dX6_append_42 (by decide) ?_
      refine lv_iadd hx hb dX6_append_43 ?_
      refine va_put (D := (dC, dI)) (ci := 5) (v := .int (typed + (1 : Int32))) (ty := .int) (C := RX6) (T := TX6) (N := 16) hx hb hts iwX6_append_X6 tyX6 tyX6_ok nmX6 hown hK hP hD hS 0 rfl rfl 6 (by decide) (hts _ kwX6_append_141) (fun _ h9 => h9) rfl (by decide +kernel) rfl rfl (Nat.le_of_ble_eq_true rfl) dX6_append_44 (fun H locs hP hD hS => ?_)
      have hP : va_P (dC, dI) vwCl [(aM, .inr (5, [.ref aZ, .ref aPast, .int pastMany, .ref aKz, .int isKept, .ref aBuf, .int (typed + (1 : Int32)), .ref aStk, .ref aLaid, .int wid, .int hei, .ref aPcs, .ref aTold, .int toldMany, .int spot, .int wrong])), (aBuf, .inl (cC, 60, .inl (upd buf (typed).toNatClampNeg (vp_nar .char (((x1).toUInt32 % 65536).toInt32)))))] H := hP
      have hD : va_D A [(aM, .inr (5, [.ref aZ, .ref aPast, .int pastMany, .ref aKz, .int isKept, .ref aBuf, .int (typed + (1 : Int32)), .ref aStk, .ref aLaid, .int wid, .int hei, .ref aPcs, .ref aTold, .int toldMany, .int spot, .int wrong])), (aBuf, .inl (cC, 60, .inl (upd buf (typed).toNatClampNeg (vp_nar .char (((x1).toUInt32 % 65536).toInt32)))))] := hD
      refine lv_aload_n hx hb dX6_append_47 rfl (lv_at hl 0 rfl) ?_
      refine va_get (D := (dC, dI)) (ci := 5) (v := .int (typed + (1 : Int32))) (C := RX6) (T := TX6) (N := 16) hx hb hts iwX6_append_X6 hown hK hP 0 rfl rfl 6 (by decide) (hts _ kwX6_append_141) (fun _ h9 => h9) rfl dX6_append_48 ?_
      exact hret _ _ _ _ _ _ _ dX6_append_51 hP hD hS hq
    · have hq := hq.2 hc
      refine lv_bipush (v := -4) hx hb dX6_append_23 (by decide) ?_
      exact hret _ _ _ _ _ _ _ dX6_append_25 hP hD hS hq
  · have hq := hq.2 hc
    refine lv_bipush (v := -2) hx hb dX6_append_11 (by decide) ?_
    exact hret _ _ _ _ _ _ _ dX6_append_13 hP hD hS hq
set_option maxRecDepth 20000 in
theorem kwX6_clearText_141 : Cond.fieldLink RX6 141 "PunchedFoldsModel" "typed" "I" ∈ wsX6_clearText := by decide +kernel
set_option maxRecDepth 20000 in
theorem iwX6_clearText_X6 : ∀ w ∈ wsX60, w ∈ wsX6_clearText := by decide +kernel
set_option maxHeartbeats 4000000 in
set_option maxRecDepth 100000 in
theorem c_X6_clearText (l : Launch) (dC : Nat → ClassId) (dI : Nat → Nat → Nat) (cI cC cS : ClassId) (aM : Nat) (aZ : Nat) (aPast : Nat) (aKz : Nat) (aBuf : Nat) (aStk : Nat) (aLaid : Nat) (aPcs : Nat) (aTold : Nat) (sz : Nat) (pastMany : Int32) (isKept : Int32) (typed : Int32) (wid : Int32) (hei : Int32) (toldMany : Int32) (spot : Int32) (wrong : Int32) {post : Int32 → Int32 → Prop} (hq : wp_X6_clearText typed post) : Met l yX6_clearText wsX6_clearText ({ frames := 0, cells := 0, slots := 0, locals := 0 } : Room) (gn_Pre (dC, dI) cI cC cS [.ref aM] sz [(aM, .inr (5, [.ref aZ, .ref aPast, .int pastMany, .ref aKz, .int isKept, .ref aBuf, .int typed, .ref aStk, .ref aLaid, .int wid, .int hei, .ref aPcs, .ref aTold, .int toldMany, .int spot, .int wrong]))]) (va_Qi (fun (r : Int32) (u : Int32) => post r u) (fun (u : Int32) t => va_P (dC, dI) vwCl [(aM, .inr (5, [.ref aZ, .ref aPast, .int pastMany, .ref aKz, .int isKept, .ref aBuf, .int u, .ref aStk, .ref aLaid, .int wid, .int hei, .ref aPcs, .ref aTold, .int toldMany, .int spot, .int wrong]))] t.heap ∧ va_K (dC, dI) vwCl (gn_tys cI cC cS) t ∧ va_D (va_A [(aM, .inr (5, [.ref aZ, .ref aPast, .int pastMany, .ref aKz, .int isKept, .ref aBuf, .int typed, .ref aStk, .ref aLaid, .int wid, .int hei, .ref aPcs, .ref aTold, .int toldMany, .int spot, .int wrong]))] sz) [(aM, .inr (5, [.ref aZ, .ref aPast, .int pastMany, .ref aKz, .int isKept, .ref aBuf, .int u, .ref aStk, .ref aLaid, .int wid, .int hei, .ref aPcs, .ref aTold, .int toldMany, .int spot, .int wrong]))]) (va_A [(aM, .inr (5, [.ref aZ, .ref aPast, .int pastMany, .ref aKz, .int isKept, .ref aBuf, .int typed, .ref aStk, .ref aLaid, .int wid, .int hei, .ref aPcs, .ref aTold, .int toldMany, .int spot, .int wrong]))] sz)) 0 0 (va_A [(aM, .inr (5, [.ref aZ, .ref aPast, .int pastMany, .ref aKz, .int isKept, .ref aBuf, .int typed, .ref aStk, .ref aLaid, .int wid, .int hei, .ref aPcs, .ref aTold, .int toldMany, .int spot, .int wrong]))] sz) := by
  unfold wp_X6_clearText at hq
  refine Met.ofW (cc := cX6_clearText) (maxL := 2) (ret := (some .int)) (by decide) rfl ?_
  intro p e s m args below meth c s₁ B hml hv
  obtain ⟨rfl, hsz, hP, hK, hN, hD0⟩ := hv
  have hx := B.exec
  have hb := B.bytes
  have hr := B.returns
  have hts := atoms_spec (ws := wsX6_clearText) B.pre
  have hown : s.vm.findClass RX6 = some m.cls := findClass_of_methodNamed B.named
  have hlocks := B.notSynchronized
  subst hsz
  have hD := hD0.self (sz := s.heap.size)
  generalize hAe : va_A [(aM, .inr (5, [.ref aZ, .ref aPast, .int pastMany, .ref aKz, .int isKept, .ref aBuf, .int typed, .ref aStk, .ref aLaid, .int wid, .int hei, .ref aPcs, .ref aTold, .int toldMany, .int spot, .int wrong]))] s.heap.size = A at hD ⊢
  have hA : ∀ q : Nat, s.heap.size ≤ q → A q := fun q h => by rw [← hAe]; exact Or.inr h
  have hS : va_S A s.heap s.heap [] := va_S.rf
  have hl := lv_entry ([.ref aM] : List Value) (n := 2) (Nat.le_of_ble_eq_true rfl)
  rw [lg_entry_eq]
  generalize (lg_sl ([.ref aM] : List Value) ++ List.replicate (2 - (lg_sl ([.ref aM] : List Value)).length) Slot.unset).toArray = ls at hl ⊢
  have hl : lv_has ls 2 [(0, .ref aM)] := hl
  refine gn_Q (hret := fun Q => ∀ (pc : Nat) (ls : Array Slot) (H : Heap) (locs : List Loc) (r : Int32) (m_typed : Int32), decode cX6_clearText pc = .ok (.ireturn, 1) → va_P (dC, dI) vwCl [(aM, .inr (5, [.ref aZ, .ref aPast, .int pastMany, .ref aKz, .int isKept, .ref aBuf, .int m_typed, .ref aStk, .ref aLaid, .int wid, .int hei, .ref aPcs, .ref aTold, .int toldMany, .int spot, .int wrong]))] H → va_D A [(aM, .inr (5, [.ref aZ, .ref aPast, .int pastMany, .ref aKz, .int isKept, .ref aBuf, .int m_typed, .ref aStk, .ref aLaid, .int wid, .int hei, .ref aPcs, .ref aTold, .int toldMany, .int spot, .int wrong]))] → va_S A s.heap H locs → post r m_typed → W p l e ({ frames := 0, cells := 0, slots := 0, locals := 0 } : Room) s m ([.ref aM] : List Value).toArray below meth c H locs 0 0 Q (F0 m pc ls [.int r])) (fun Q hret => ?_) ?_
  rotate_left
  · intro pc ls H locs r m_typed hdg hP hD hS hpost
    exact W.iret (v := r) hx hb hr (fun t ht hW => ⟨⟨r, m_typed, rfl, hpost, by rw [ht]; exact hP, va_K.moved hW.alike hK, hD⟩, hS.F ht⟩) hS.2.2 hdg
  refine lv_aload_n hx hb dX6_clearText_0 rfl (lv_at hl 0 rfl) ?_
  refine va_get (D := (dC, dI)) (ci := 5) (v := .int typed) (C := RX6) (T := TX6) (N := 16) hx hb hts iwX6_clearText_X6 hown hK hP 0 rfl rfl 6 (by decide) (hts _ kwX6_clearText_141) (fun _ h9 => h9) rfl dX6_clearText_1 ?_
  refine lv_istore_n (lv' := [(1, .int typed), (0, .ref aM)]) hx hb dX6_clearText_4 rfl hl (by decide) rfl (fun ls hl => ?_)
  refine lv_aload_n hx hb dX6_clearText_5 rfl (lv_at hl 1 rfl) ?_
  refine lv_iconst (v := 0) hx hb dX6_clearText_6 (by decide) ?_
  refine va_put (D := (dC, dI)) (ci := 5) (v := .int (0 : Int32)) (ty := .int) (C := RX6) (T := TX6) (N := 16) hx hb hts iwX6_clearText_X6 tyX6 tyX6_ok nmX6 hown hK hP hD hS 0 rfl rfl 6 (by decide) (hts _ kwX6_clearText_141) (fun _ h9 => h9) rfl (by decide +kernel) rfl rfl (Nat.le_of_ble_eq_true rfl) dX6_clearText_7 (fun H locs hP hD hS => ?_)
  have hP : va_P (dC, dI) vwCl [(aM, .inr (5, [.ref aZ, .ref aPast, .int pastMany, .ref aKz, .int isKept, .ref aBuf, .int (0 : Int32), .ref aStk, .ref aLaid, .int wid, .int hei, .ref aPcs, .ref aTold, .int toldMany, .int spot, .int wrong]))] H := hP
  have hD : va_D A [(aM, .inr (5, [.ref aZ, .ref aPast, .int pastMany, .ref aKz, .int isKept, .ref aBuf, .int (0 : Int32), .ref aStk, .ref aLaid, .int wid, .int hei, .ref aPcs, .ref aTold, .int toldMany, .int spot, .int wrong]))] := hD
  refine lv_iload_n hx hb dX6_clearText_10 rfl (lv_at hl 0 rfl) ?_
  exact hret _ _ _ _ _ _ dX6_clearText_11 hP hD hS hq
set_option maxRecDepth 20000 in
theorem kwX6_letter_144 : Cond.fieldLink RX6 144 "PunchedFoldsModel" "spot" "I" ∈ wsX6_letter := by decide +kernel
set_option maxRecDepth 20000 in
theorem iwX6_letter_X6 : ∀ w ∈ wsX60, w ∈ wsX6_letter := by decide +kernel
set_option maxRecDepth 20000 in
theorem kwX6_letter_141 : Cond.fieldLink RX6 141 "PunchedFoldsModel" "typed" "I" ∈ wsX6_letter := by decide +kernel
set_option maxRecDepth 20000 in
theorem kwX6_letter_19 : Cond.fieldLink RX6 19 "PunchedFoldsModel" "buffer" "[C" ∈ wsX6_letter := by decide +kernel
set_option maxHeartbeats 4000000 in
set_option maxRecDepth 100000 in
theorem c_X6_letter (l : Launch) (dC : Nat → ClassId) (dI : Nat → Nat → Nat) (cI cC cS : ClassId) (aM : Nat) (aZ : Nat) (aPast : Nat) (aKz : Nat) (aBuf : Nat) (aStk : Nat) (aLaid : Nat) (aPcs : Nat) (aTold : Nat) (sz : Nat) (pastMany : Int32) (isKept : Int32) (typed : Int32) (wid : Int32) (hei : Int32) (toldMany : Int32) (spot : Int32) (wrong : Int32) (buf : Nat → Int32) {post : Int32 → Prop} (hq : wp_X6_letter typed spot buf post) : Met l yX6_letter wsX6_letter ({ frames := 0, cells := 0, slots := 0, locals := 0 } : Room) (gn_Pre (dC, dI) cI cC cS [.ref aM] sz [(aM, .inr (5, [.ref aZ, .ref aPast, .int pastMany, .ref aKz, .int isKept, .ref aBuf, .int typed, .ref aStk, .ref aLaid, .int wid, .int hei, .ref aPcs, .ref aTold, .int toldMany, .int spot, .int wrong])), (aBuf, .inl (cC, 60, .inl buf))]) (va_Qi (fun (r : Int32) (u : Unit) => post r) (fun (u : Unit) t => va_P (dC, dI) vwCl [(aM, .inr (5, [.ref aZ, .ref aPast, .int pastMany, .ref aKz, .int isKept, .ref aBuf, .int typed, .ref aStk, .ref aLaid, .int wid, .int hei, .ref aPcs, .ref aTold, .int toldMany, .int spot, .int wrong])), (aBuf, .inl (cC, 60, .inl buf))] t.heap ∧ va_K (dC, dI) vwCl (gn_tys cI cC cS) t ∧ va_D (va_A [(aM, .inr (5, [.ref aZ, .ref aPast, .int pastMany, .ref aKz, .int isKept, .ref aBuf, .int typed, .ref aStk, .ref aLaid, .int wid, .int hei, .ref aPcs, .ref aTold, .int toldMany, .int spot, .int wrong])), (aBuf, .inl (cC, 60, .inl buf))] sz) [(aM, .inr (5, [.ref aZ, .ref aPast, .int pastMany, .ref aKz, .int isKept, .ref aBuf, .int typed, .ref aStk, .ref aLaid, .int wid, .int hei, .ref aPcs, .ref aTold, .int toldMany, .int spot, .int wrong])), (aBuf, .inl (cC, 60, .inl buf))]) (va_A [(aM, .inr (5, [.ref aZ, .ref aPast, .int pastMany, .ref aKz, .int isKept, .ref aBuf, .int typed, .ref aStk, .ref aLaid, .int wid, .int hei, .ref aPcs, .ref aTold, .int toldMany, .int spot, .int wrong])), (aBuf, .inl (cC, 60, .inl buf))] sz)) 0 0 (va_A [(aM, .inr (5, [.ref aZ, .ref aPast, .int pastMany, .ref aKz, .int isKept, .ref aBuf, .int typed, .ref aStk, .ref aLaid, .int wid, .int hei, .ref aPcs, .ref aTold, .int toldMany, .int spot, .int wrong])), (aBuf, .inl (cC, 60, .inl buf))] sz) := by
  unfold wp_X6_letter at hq
  refine Met.ofW (cc := cX6_letter) (maxL := 1) (ret := (some .int)) (by decide) rfl ?_
  intro p e s m args below meth c s₁ B hml hv
  obtain ⟨rfl, hsz, hP, hK, hN, hD0⟩ := hv
  have hx := B.exec
  have hb := B.bytes
  have hr := B.returns
  have hts := atoms_spec (ws := wsX6_letter) B.pre
  have hown : s.vm.findClass RX6 = some m.cls := findClass_of_methodNamed B.named
  have hlocks := B.notSynchronized
  subst hsz
  have hD := hD0.self (sz := s.heap.size)
  generalize hAe : va_A [(aM, .inr (5, [.ref aZ, .ref aPast, .int pastMany, .ref aKz, .int isKept, .ref aBuf, .int typed, .ref aStk, .ref aLaid, .int wid, .int hei, .ref aPcs, .ref aTold, .int toldMany, .int spot, .int wrong])), (aBuf, .inl (cC, 60, .inl buf))] s.heap.size = A at hD ⊢
  have hA : ∀ q : Nat, s.heap.size ≤ q → A q := fun q h => by rw [← hAe]; exact Or.inr h
  have hS : va_S A s.heap s.heap [] := va_S.rf
  have hl := lv_entry ([.ref aM] : List Value) (n := 1) (Nat.le_of_ble_eq_true rfl)
  rw [lg_entry_eq]
  generalize (lg_sl ([.ref aM] : List Value) ++ List.replicate (1 - (lg_sl ([.ref aM] : List Value)).length) Slot.unset).toArray = ls at hl ⊢
  have hl : lv_has ls 1 [(0, .ref aM)] := hl
  refine gn_Q (hret := fun Q => ∀ (pc : Nat) (ls : Array Slot) (H : Heap) (locs : List Loc) (r : Int32) , decode cX6_letter pc = .ok (.ireturn, 1) → va_P (dC, dI) vwCl [(aM, .inr (5, [.ref aZ, .ref aPast, .int pastMany, .ref aKz, .int isKept, .ref aBuf, .int typed, .ref aStk, .ref aLaid, .int wid, .int hei, .ref aPcs, .ref aTold, .int toldMany, .int spot, .int wrong])), (aBuf, .inl (cC, 60, .inl buf))] H → va_D A [(aM, .inr (5, [.ref aZ, .ref aPast, .int pastMany, .ref aKz, .int isKept, .ref aBuf, .int typed, .ref aStk, .ref aLaid, .int wid, .int hei, .ref aPcs, .ref aTold, .int toldMany, .int spot, .int wrong])), (aBuf, .inl (cC, 60, .inl buf))] → va_S A s.heap H locs → post r → W p l e ({ frames := 0, cells := 0, slots := 0, locals := 0 } : Room) s m ([.ref aM] : List Value).toArray below meth c H locs 0 0 Q (F0 m pc ls [.int r])) (fun Q hret => ?_) ?_
  rotate_left
  · intro pc ls H locs r hdg hP hD hS hpost
    exact W.iret (v := r) hx hb hr (fun t ht hW => ⟨⟨r, (), rfl, hpost, by rw [ht]; exact hP, va_K.moved hW.alike hK, hD⟩, hS.F ht⟩) hS.2.2 hdg
  refine lv_aload_n hx hb dX6_letter_0 rfl (lv_at hl 0 rfl) ?_
  refine va_get (D := (dC, dI)) (ci := 5) (v := .int spot) (C := RX6) (T := TX6) (N := 16) hx hb hts iwX6_letter_X6 hown hK hP 0 rfl rfl 14 (by decide) (hts _ kwX6_letter_144) (fun _ h9 => h9) rfl dX6_letter_1 ?_
  refine lv_aload_n hx hb dX6_letter_4 rfl (lv_at hl 0 rfl) ?_
  refine va_get (D := (dC, dI)) (ci := 5) (v := .int typed) (C := RX6) (T := TX6) (N := 16) hx hb hts iwX6_letter_X6 hown hK hP 0 rfl rfl 6 (by decide) (hts _ kwX6_letter_141) (fun _ h9 => h9) rfl dX6_letter_5 ?_
  refine lv_icmp_ge (tgt := 23) hx hb dX6_letter_8 (by decide) (fun hc => ?_) (fun hc => ?_)
  · have hq := hq.1 hc
    refine lv_bipush (v := -6) hx hb dX6_letter_23 (by decide) ?_
    exact hret _ _ _ _ _ dX6_letter_25 hP hD hS hq
  · have hq := hq.2 hc
    refine lv_aload_n hx hb dX6_letter_11 rfl (lv_at hl 0 rfl) ?_
    refine va_get (D := (dC, dI)) (ci := 5) (v := .ref aBuf) (C := RX6) (T := TX6) (N := 16) hx hb hts iwX6_letter_X6 hown hK hP 0 rfl rfl 5 (by decide) (hts _ kwX6_letter_19) (fun _ h9 => h9) rfl dX6_letter_12 ?_
    refine lv_aload_n hx hb dX6_letter_15 rfl (lv_at hl 0 rfl) ?_
    refine va_get (D := (dC, dI)) (ci := 5) (v := .int spot) (C := RX6) (T := TX6) (N := 16) hx hb hts iwX6_letter_X6 hown hK hP 0 rfl rfl 14 (by decide) (hts _ kwX6_letter_144) (fun _ h9 => h9) rfl dX6_letter_16 ?_
    have hin := hq.1
    have hq := hq.2
    refine va_cald hx hb hK hP 1 1 rfl rfl hin dX6_letter_19 ?_
    refine lv_goto (tgt := 25) hx hb dX6_letter_20 (by decide) ?_
    exact hret _ _ _ _ _ dX6_letter_25 hP hD hS hq
set_option maxRecDepth 20000 in
theorem kwX6_wants_147 : Cond.fieldLink RX6 147 "PunchedFoldsModel" "wrong" "I" ∈ wsX6_wants := by decide +kernel
set_option maxRecDepth 20000 in
theorem iwX6_wants_X6 : ∀ w ∈ wsX60, w ∈ wsX6_wants := by decide +kernel
set_option maxRecDepth 20000 in
theorem kwX6_wants_144 : Cond.fieldLink RX6 144 "PunchedFoldsModel" "spot" "I" ∈ wsX6_wants := by decide +kernel
set_option maxHeartbeats 4000000 in
set_option maxRecDepth 100000 in
theorem c_X6_wants (l : Launch) (dC : Nat → ClassId) (dI : Nat → Nat → Nat) (cI cC cS : ClassId) (aM : Nat) (aZ : Nat) (aPast : Nat) (aKz : Nat) (aBuf : Nat) (aStk : Nat) (aLaid : Nat) (aPcs : Nat) (aTold : Nat) (sz : Nat) (pastMany : Int32) (isKept : Int32) (typed : Int32) (wid : Int32) (hei : Int32) (toldMany : Int32) (spot : Int32) (wrong : Int32) (x1 : Int32) {post : Int32 → Int32 → Prop} (hq : wp_X6_wants spot wrong x1 post) : Met l yX6_wants wsX6_wants ({ frames := 0, cells := 0, slots := 0, locals := 0 } : Room) (gn_Pre (dC, dI) cI cC cS [.ref aM, .int x1] sz [(aM, .inr (5, [.ref aZ, .ref aPast, .int pastMany, .ref aKz, .int isKept, .ref aBuf, .int typed, .ref aStk, .ref aLaid, .int wid, .int hei, .ref aPcs, .ref aTold, .int toldMany, .int spot, .int wrong]))]) (va_Qv (fun (u : Int32 × Int32) => post u.1 u.2) (fun (u : Int32 × Int32) t => va_P (dC, dI) vwCl [(aM, .inr (5, [.ref aZ, .ref aPast, .int pastMany, .ref aKz, .int isKept, .ref aBuf, .int typed, .ref aStk, .ref aLaid, .int wid, .int hei, .ref aPcs, .ref aTold, .int toldMany, .int u.1, .int u.2]))] t.heap ∧ va_K (dC, dI) vwCl (gn_tys cI cC cS) t ∧ va_D (va_A [(aM, .inr (5, [.ref aZ, .ref aPast, .int pastMany, .ref aKz, .int isKept, .ref aBuf, .int typed, .ref aStk, .ref aLaid, .int wid, .int hei, .ref aPcs, .ref aTold, .int toldMany, .int spot, .int wrong]))] sz) [(aM, .inr (5, [.ref aZ, .ref aPast, .int pastMany, .ref aKz, .int isKept, .ref aBuf, .int typed, .ref aStk, .ref aLaid, .int wid, .int hei, .ref aPcs, .ref aTold, .int toldMany, .int u.1, .int u.2]))]) (va_A [(aM, .inr (5, [.ref aZ, .ref aPast, .int pastMany, .ref aKz, .int isKept, .ref aBuf, .int typed, .ref aStk, .ref aLaid, .int wid, .int hei, .ref aPcs, .ref aTold, .int toldMany, .int spot, .int wrong]))] sz)) 0 0 (va_A [(aM, .inr (5, [.ref aZ, .ref aPast, .int pastMany, .ref aKz, .int isKept, .ref aBuf, .int typed, .ref aStk, .ref aLaid, .int wid, .int hei, .ref aPcs, .ref aTold, .int toldMany, .int spot, .int wrong]))] sz) := by
  unfold wp_X6_wants at hq
  refine Met.ofW (cc := cX6_wants) (maxL := 2) (ret := none) (by decide) rfl ?_
  intro p e s m args below meth c s₁ B hml hv
  obtain ⟨rfl, hsz, hP, hK, hN, hD0⟩ := hv
  have hx := B.exec
  have hb := B.bytes
  have hr := B.returns
  have hts := atoms_spec (ws := wsX6_wants) B.pre
  have hown : s.vm.findClass RX6 = some m.cls := findClass_of_methodNamed B.named
  have hlocks := B.notSynchronized
  subst hsz
  have hD := hD0.self (sz := s.heap.size)
  generalize hAe : va_A [(aM, .inr (5, [.ref aZ, .ref aPast, .int pastMany, .ref aKz, .int isKept, .ref aBuf, .int typed, .ref aStk, .ref aLaid, .int wid, .int hei, .ref aPcs, .ref aTold, .int toldMany, .int spot, .int wrong]))] s.heap.size = A at hD ⊢
  have hA : ∀ q : Nat, s.heap.size ≤ q → A q := fun q h => by rw [← hAe]; exact Or.inr h
  have hS : va_S A s.heap s.heap [] := va_S.rf
  have hl := lv_entry ([.ref aM, .int x1] : List Value) (n := 2) (Nat.le_of_ble_eq_true rfl)
  rw [lg_entry_eq]
  generalize (lg_sl ([.ref aM, .int x1] : List Value) ++ List.replicate (2 - (lg_sl ([.ref aM, .int x1] : List Value)).length) Slot.unset).toArray = ls at hl ⊢
  have hl : lv_has ls 2 [(0, .ref aM), (1, .int x1)] := hl
  refine gn_Q (hret := fun Q => ∀ (pc : Nat) (ls : Array Slot) (H : Heap) (locs : List Loc) (m_spot : Int32) (m_wrong : Int32), decode cX6_wants pc = .ok (.return_, 1) → va_P (dC, dI) vwCl [(aM, .inr (5, [.ref aZ, .ref aPast, .int pastMany, .ref aKz, .int isKept, .ref aBuf, .int typed, .ref aStk, .ref aLaid, .int wid, .int hei, .ref aPcs, .ref aTold, .int toldMany, .int m_spot, .int m_wrong]))] H → va_D A [(aM, .inr (5, [.ref aZ, .ref aPast, .int pastMany, .ref aKz, .int isKept, .ref aBuf, .int typed, .ref aStk, .ref aLaid, .int wid, .int hei, .ref aPcs, .ref aTold, .int toldMany, .int m_spot, .int m_wrong]))] → va_S A s.heap H locs → post m_spot m_wrong → W p l e ({ frames := 0, cells := 0, slots := 0, locals := 0 } : Room) s m ([.ref aM, .int x1] : List Value).toArray below meth c H locs 0 0 Q (F0 m pc ls [])) (fun Q hret => ?_) ?_
  rotate_left
  · intro pc ls H locs m_spot m_wrong hdg hP hD hS hpost
    exact W.vret hx hb hr (fun t ht hW => ⟨⟨(m_spot, m_wrong), rfl, hpost, by rw [ht]; exact hP, va_K.moved hW.alike hK, hD⟩, hS.F ht⟩) hS.2.2 hdg
  refine lv_aload_n hx hb dX6_wants_0 rfl (lv_at hl 0 rfl) ?_
  refine va_get (D := (dC, dI)) (ci := 5) (v := .int wrong) (C := RX6) (T := TX6) (N := 16) hx hb hts iwX6_wants_X6 hown hK hP 0 rfl rfl 15 (by decide) (hts _ kwX6_wants_147) (fun _ h9 => h9) rfl dX6_wants_1 ?_
  refine lv_bipush (v := -6) hx hb dX6_wants_4 (by decide) ?_
  refine lv_icmp_ne (tgt := 36) hx hb dX6_wants_6 (by decide) (fun hc => ?_) (fun hc => ?_)
  · have hq := hq.1 hc
    exact hret _ _ _ _ _ _ dX6_wants_36 hP hD hS hq
  · have hq := hq.2 hc
    refine lv_aload_n hx hb dX6_wants_9 rfl (lv_at hl 0 rfl) ?_
    refine lv_iload_n hx hb dX6_wants_10 rfl (lv_at hl 1 rfl) ?_
    have hq := hq (fun (t_1 : Int32) => ∀ (H : Heap) (locs : List Loc) (ls : Array Slot), va_P (dC, dI) vwCl [(aM, .inr (5, [.ref aZ, .ref aPast, .int pastMany, .ref aKz, .int isKept, .ref aBuf, .int typed, .ref aStk, .ref aLaid, .int wid, .int hei, .ref aPcs, .ref aTold, .int toldMany, .int spot, .int wrong]))] H → va_D A [(aM, .inr (5, [.ref aZ, .ref aPast, .int pastMany, .ref aKz, .int isKept, .ref aBuf, .int typed, .ref aStk, .ref aLaid, .int wid, .int hei, .ref aPcs, .ref aTold, .int toldMany, .int spot, .int wrong]))] → va_S A s.heap H locs → lv_has ls 2 [(0, .ref aM)] → W p l e ({ frames := 0, cells := 0, slots := 0, locals := 0 } : Room) s m ([.ref aM, .int x1] : List Value).toArray below meth c H locs 0 0 Q (F0 m 23 ls [.int t_1, .ref aM])) (by
      intro t_1 hq H locs ls hP hD hS hl
      refine va_put (D := (dC, dI)) (ci := 5) (v := .int t_1) (ty := .int) (C := RX6) (T := TX6) (N := 16) hx hb hts iwX6_wants_X6 tyX6 tyX6_ok nmX6 hown hK hP hD hS 0 rfl rfl 15 (by decide) (hts _ kwX6_wants_147) (fun _ h9 => h9) rfl (by decide +kernel) rfl rfl (Nat.le_of_ble_eq_true rfl) dX6_wants_23 (fun H locs hP hD hS => ?_)
      have hP : va_P (dC, dI) vwCl [(aM, .inr (5, [.ref aZ, .ref aPast, .int pastMany, .ref aKz, .int isKept, .ref aBuf, .int typed, .ref aStk, .ref aLaid, .int wid, .int hei, .ref aPcs, .ref aTold, .int toldMany, .int spot, .int t_1]))] H := hP
      have hD : va_D A [(aM, .inr (5, [.ref aZ, .ref aPast, .int pastMany, .ref aKz, .int isKept, .ref aBuf, .int typed, .ref aStk, .ref aLaid, .int wid, .int hei, .ref aPcs, .ref aTold, .int toldMany, .int spot, .int t_1]))] := hD
      refine lv_aload_n hx hb dX6_wants_26 rfl (lv_at hl 0 rfl) ?_
      refine lv_dup hx hb dX6_wants_27 rfl ?_
      refine va_get (D := (dC, dI)) (ci := 5) (v := .int spot) (C := RX6) (T := TX6) (N := 16) hx hb hts iwX6_wants_X6 hown hK hP 0 rfl rfl 14 (by decide) (hts _ kwX6_wants_144) (fun _ h9 => h9) rfl dX6_wants_28 ?_
      refine lv_iconst (v := 1) hx hb dX6_wants_31 (by decide) ?_
      refine lv_iadd hx hb dX6_wants_32 ?_
      refine va_put (D := (dC, dI)) (ci := 5) (v := .int (spot + (1 : Int32))) (ty := .int) (C := RX6) (T := TX6) (N := 16) hx hb hts iwX6_wants_X6 tyX6 tyX6_ok nmX6 hown hK hP hD hS 0 rfl rfl 14 (by decide) (hts _ kwX6_wants_144) (fun _ h9 => h9) rfl (by decide +kernel) rfl rfl (Nat.le_of_ble_eq_true rfl) dX6_wants_33 (fun H locs hP hD hS => ?_)
      have hP : va_P (dC, dI) vwCl [(aM, .inr (5, [.ref aZ, .ref aPast, .int pastMany, .ref aKz, .int isKept, .ref aBuf, .int typed, .ref aStk, .ref aLaid, .int wid, .int hei, .ref aPcs, .ref aTold, .int toldMany, .int (spot + (1 : Int32)), .int t_1]))] H := hP
      have hD : va_D A [(aM, .inr (5, [.ref aZ, .ref aPast, .int pastMany, .ref aKz, .int isKept, .ref aBuf, .int typed, .ref aStk, .ref aLaid, .int wid, .int hei, .ref aPcs, .ref aTold, .int toldMany, .int (spot + (1 : Int32)), .int t_1]))] := hD
      exact hret _ _ _ _ _ _ dX6_wants_36 hP hD hS hq)
    refine lv_if_eq (tgt := 19) hx hb dX6_wants_11 (by decide) (fun hc => ?_) (fun hc => ?_)
    · have hq := hq.1 hc
      refine lv_aload_n hx hb dX6_wants_19 rfl (lv_at hl 0 rfl) ?_
      refine va_get (D := (dC, dI)) (ci := 5) (v := .int spot) (C := RX6) (T := TX6) (N := 16) hx hb hts iwX6_wants_X6 hown hK hP 0 rfl rfl 14 (by decide) (hts _ kwX6_wants_144) (fun _ h9 => h9) rfl dX6_wants_20 ?_
      exact hq _ _ _ hP hD hS (lv_sub hl [0] rfl)
    · have hq := hq.2 hc
      refine lv_bipush (v := -6) hx hb dX6_wants_14 (by decide) ?_
      refine lv_goto (tgt := 23) hx hb dX6_wants_16 (by decide) ?_
      exact hq _ _ _ hP hD hS (lv_sub hl [0] rfl)
set_option maxHeartbeats 4000000 in
set_option maxRecDepth 100000 in
theorem c_X6_figure (l : Launch) (dC : Nat → ClassId) (dI : Nat → Nat → Nat) (cI cC cS : ClassId) (aM : Nat) (aZ : Nat) (aPast : Nat) (aKz : Nat) (aBuf : Nat) (aStk : Nat) (aLaid : Nat) (aPcs : Nat) (aTold : Nat) (sz : Nat) (pastMany : Int32) (isKept : Int32) (typed : Int32) (wid : Int32) (hei : Int32) (toldMany : Int32) (spot : Int32) (wrong : Int32) (buf : Nat → Int32) (x1 : Int32) (x2 : Int32) {post : Int32 → Int32 → Int32 → Prop} (hq : wp_X6_figure typed spot wrong buf x1 x2 post) : Met l yX6_figure wsX6_figure ({ frames := 1, cells := 0, slots := 0, locals := 22 } : Room) (gn_Pre (dC, dI) cI cC cS [.ref aM, .int x1, .int x2] sz [(aM, .inr (5, [.ref aZ, .ref aPast, .int pastMany, .ref aKz, .int isKept, .ref aBuf, .int typed, .ref aStk, .ref aLaid, .int wid, .int hei, .ref aPcs, .ref aTold, .int toldMany, .int spot, .int wrong])), (aBuf, .inl (cC, 60, .inl buf))]) (va_Qi (fun (r : Int32) (u : Int32 × Int32) => post r u.1 u.2) (fun (u : Int32 × Int32) t => va_P (dC, dI) vwCl [(aM, .inr (5, [.ref aZ, .ref aPast, .int pastMany, .ref aKz, .int isKept, .ref aBuf, .int typed, .ref aStk, .ref aLaid, .int wid, .int hei, .ref aPcs, .ref aTold, .int toldMany, .int u.1, .int u.2])), (aBuf, .inl (cC, 60, .inl buf))] t.heap ∧ va_K (dC, dI) vwCl (gn_tys cI cC cS) t ∧ va_D (va_A [(aM, .inr (5, [.ref aZ, .ref aPast, .int pastMany, .ref aKz, .int isKept, .ref aBuf, .int typed, .ref aStk, .ref aLaid, .int wid, .int hei, .ref aPcs, .ref aTold, .int toldMany, .int spot, .int wrong])), (aBuf, .inl (cC, 60, .inl buf))] sz) [(aM, .inr (5, [.ref aZ, .ref aPast, .int pastMany, .ref aKz, .int isKept, .ref aBuf, .int typed, .ref aStk, .ref aLaid, .int wid, .int hei, .ref aPcs, .ref aTold, .int toldMany, .int u.1, .int u.2])), (aBuf, .inl (cC, 60, .inl buf))]) (va_A [(aM, .inr (5, [.ref aZ, .ref aPast, .int pastMany, .ref aKz, .int isKept, .ref aBuf, .int typed, .ref aStk, .ref aLaid, .int wid, .int hei, .ref aPcs, .ref aTold, .int toldMany, .int spot, .int wrong])), (aBuf, .inl (cC, 60, .inl buf))] sz)) 0 0 (va_A [(aM, .inr (5, [.ref aZ, .ref aPast, .int pastMany, .ref aKz, .int isKept, .ref aBuf, .int typed, .ref aStk, .ref aLaid, .int wid, .int hei, .ref aPcs, .ref aTold, .int toldMany, .int spot, .int wrong])), (aBuf, .inl (cC, 60, .inl buf))] sz) := by
  unfold wp_X6_figure at hq
  refine Met.ofW (cc := cX6_figure) (maxL := 4) (ret := (some .int)) (by decide) rfl ?_
  intro p e s m args below meth c s₁ B hml hv
  obtain ⟨rfl, hsz, hP, hK, hN, hD0⟩ := hv
  have hx := B.exec
  have hb := B.bytes
  have hr := B.returns
  have hts := atoms_spec (ws := wsX6_figure) B.pre
  have hown : s.vm.findClass RX6 = some m.cls := findClass_of_methodNamed B.named
  have hlocks := B.notSynchronized
  subst hsz
  have hD := hD0.self (sz := s.heap.size)
  generalize hAe : va_A [(aM, .inr (5, [.ref aZ, .ref aPast, .int pastMany, .ref aKz, .int isKept, .ref aBuf, .int typed, .ref aStk, .ref aLaid, .int wid, .int hei, .ref aPcs, .ref aTold, .int toldMany, .int spot, .int wrong])), (aBuf, .inl (cC, 60, .inl buf))] s.heap.size = A at hD ⊢
  have hA : ∀ q : Nat, s.heap.size ≤ q → A q := fun q h => by rw [← hAe]; exact Or.inr h
  have hS : va_S A s.heap s.heap [] := va_S.rf
  have hl := lv_entry ([.ref aM, .int x1, .int x2] : List Value) (n := 4) (Nat.le_of_ble_eq_true rfl)
  rw [lg_entry_eq]
  generalize (lg_sl ([.ref aM, .int x1, .int x2] : List Value) ++ List.replicate (4 - (lg_sl ([.ref aM, .int x1, .int x2] : List Value)).length) Slot.unset).toArray = ls at hl ⊢
  have hl : lv_has ls 4 [(0, .ref aM), (1, .int x1), (2, .int x2)] := hl
  refine gn_Q (hret := fun Q => ∀ (pc : Nat) (ls : Array Slot) (H : Heap) (locs : List Loc) (r : Int32) (m_spot : Int32) (m_wrong : Int32), decode cX6_figure pc = .ok (.ireturn, 1) → va_P (dC, dI) vwCl [(aM, .inr (5, [.ref aZ, .ref aPast, .int pastMany, .ref aKz, .int isKept, .ref aBuf, .int typed, .ref aStk, .ref aLaid, .int wid, .int hei, .ref aPcs, .ref aTold, .int toldMany, .int m_spot, .int m_wrong])), (aBuf, .inl (cC, 60, .inl buf))] H → va_D A [(aM, .inr (5, [.ref aZ, .ref aPast, .int pastMany, .ref aKz, .int isKept, .ref aBuf, .int typed, .ref aStk, .ref aLaid, .int wid, .int hei, .ref aPcs, .ref aTold, .int toldMany, .int m_spot, .int m_wrong])), (aBuf, .inl (cC, 60, .inl buf))] → va_S A s.heap H locs → post r m_spot m_wrong → W p l e ({ frames := 1, cells := 0, slots := 0, locals := 22 } : Room) s m ([.ref aM, .int x1, .int x2] : List Value).toArray below meth c H locs 0 0 Q (F0 m pc ls [.int r])) (fun Q hret => ?_) ?_
  rotate_left
  · intro pc ls H locs r m_spot m_wrong hdg hP hD hS hpost
    exact W.iret (v := r) hx hb hr (fun t ht hW => ⟨⟨r, (m_spot, m_wrong), rfl, hpost, by rw [ht]; exact hP, va_K.moved hW.alike hK, hD⟩, hS.F ht⟩) hS.2.2 hdg
  refine lv_aload_n hx hb dX6_figure_0 rfl (lv_at hl 0 rfl) ?_
  have hPc := hP.sub (ws' := [(aM, .inr (5, [.ref aZ, .ref aPast, .int pastMany, .ref aKz, .int isKept, .ref aBuf, .int typed, .ref aStk, .ref aLaid, .int wid, .int hei, .ref aPcs, .ref aTold, .int toldMany, .int spot, .int wrong])), (aBuf, .inl (cC, 60, .inl buf))]) [0, 1] rfl
  have hDc := hD.sub (ws' := [(aM, .inr (5, [.ref aZ, .ref aPast, .int pastMany, .ref aKz, .int isKept, .ref aBuf, .int typed, .ref aStk, .ref aLaid, .int wid, .int hei, .ref aPcs, .ref aTold, .int toldMany, .int spot, .int wrong])), (aBuf, .inl (cC, 60, .inl buf))]) [0, 1] (by decide) rfl
  have hFc := va_free (wc := [(aM, .inr (5, [.ref aZ, .ref aPast, .int pastMany, .ref aKz, .int isKept, .ref aBuf, .int typed, .ref aStk, .ref aLaid, .int wid, .int hei, .ref aPcs, .ref aTold, .int toldMany, .int spot, .int wrong])), (aBuf, .inl (cC, 60, .inl buf))]) hD hS hA [0, 1] rfl
  refine va_calli (va_runV (As := []) (rest := []) ⟨hx, hb, hml, hown, hts⟩ (c_X6_letter l dC dI cI cC cS aM aZ aPast aKz aBuf aStk aLaid aPcs aTold _ pastMany isKept typed wid hei toldMany spot wrong buf hq) (cwV 0 hts gX6_figure_X6_letter rfl rfl rfl (by decide +kernel) ⟨Nat.le_of_ble_eq_true rfl, Nat.le_of_ble_eq_true rfl⟩) (gn_preV hPc hK hN hDc (ci := 5) (q0 := 0) rfl rfl) rfl rfl hl.1 rfl (lv_room (Nat.le_of_ble_eq_true rfl)) dX6_figure_1 ⟨Nat.zero_le _, Nat.zero_le _⟩) hS (fun q _ h => hFc q h) hFc (fun r_1 u t H1 locs ht hvm hq hB hz1 hk1 hS => ?_)
  obtain ⟨hP1, hK1, hD1⟩ := hB
  rw [ht] at hP1
  try dsimp only at hq
  obtain ⟨hP, hD⟩ := va_join (wr := []) (w1 := [(aM, .inr (5, [.ref aZ, .ref aPast, .int pastMany, .ref aKz, .int isKept, .ref aBuf, .int typed, .ref aStk, .ref aLaid, .int wid, .int hei, .ref aPcs, .ref aTold, .int toldMany, .int spot, .int wrong])), (aBuf, .inl (cC, 60, .inl buf))]) hP hD [0, 1] [] rfl rfl (by decide) (by decide) hk1 hFc hP1 hD1
  have hP := hP.sub (ws' := [(aM, .inr (5, [.ref aZ, .ref aPast, .int pastMany, .ref aKz, .int isKept, .ref aBuf, .int typed, .ref aStk, .ref aLaid, .int wid, .int hei, .ref aPcs, .ref aTold, .int toldMany, .int spot, .int wrong])), (aBuf, .inl (cC, 60, .inl buf))]) [0, 1] rfl
  have hD := hD.sub (ws' := [(aM, .inr (5, [.ref aZ, .ref aPast, .int pastMany, .ref aKz, .int isKept, .ref aBuf, .int typed, .ref aStk, .ref aLaid, .int wid, .int hei, .ref aPcs, .ref aTold, .int toldMany, .int spot, .int wrong])), (aBuf, .inl (cC, 60, .inl buf))]) [0, 1] (by decide) rfl
  generalize H1 = H at hP hS ⊢
  refine lv_bipush (v := 48) hx hb dX6_figure_4 (by decide) ?_
  refine lv_isub hx hb dX6_figure_6 ?_
  refine lv_topi (fun w3_2 ew3_2 => ?_)
  have hq := hq w3_2 ew3_2
  refine lv_istore_n (lv' := [(3, .int w3_2), (0, .ref aM), (1, .int x1), (2, .int x2)]) hx hb dX6_figure_7 rfl hl (by decide) rfl (fun ls hl => ?_)
  refine lv_aload_n hx hb dX6_figure_8 rfl (lv_at hl 1 rfl) ?_
  refine lv_iload_n hx hb dX6_figure_9 rfl (lv_at hl 0 rfl) ?_
  refine lv_iload_n hx hb dX6_figure_10 rfl (lv_at hl 2 rfl) ?_
  refine lv_iload_n hx hb dX6_figure_11 rfl (lv_at hl 3 rfl) ?_
  have hPc := hP.sub (ws' := []) [] rfl
  have hDc := hD.sub (ws' := []) [] (by decide) rfl
  have hFc := va_free (wc := []) hD hS hA [] rfl
  refine va_calli (va_runS (As := [.int w3_2, .int x1, .int x2]) (rest := [.ref aM]) ⟨hx, hb, hml, hown, hts⟩ (c_X6_in l dC dI cI cC cS _ w3_2 x1 x2 hq) (va_cwS 3 hts gX6_figure_X6_in rfl rfl rfl (by decide +kernel) ⟨Nat.le_of_ble_eq_true rfl, Nat.le_of_ble_eq_true rfl⟩) (gn_preS hPc hK hN hDc) rfl rfl hl.1 rfl (lv_room (Nat.le_of_ble_eq_true rfl)) dX6_figure_12 ⟨Nat.zero_le _, Nat.zero_le _⟩) hS (fun q _ h => hFc q h) hFc (fun r_3 u t H1 locs ht hvm hq hB hz1 hk1 hS => ?_)
  obtain ⟨hP1, hK1, hD1⟩ := hB
  rw [ht] at hP1
  try dsimp only at hq
  obtain ⟨hP, hD⟩ := va_join (wr := [(aM, .inr (5, [.ref aZ, .ref aPast, .int pastMany, .ref aKz, .int isKept, .ref aBuf, .int typed, .ref aStk, .ref aLaid, .int wid, .int hei, .ref aPcs, .ref aTold, .int toldMany, .int spot, .int wrong])), (aBuf, .inl (cC, 60, .inl buf))]) (w1 := []) hP hD [] [0, 1] rfl rfl (by decide) (by decide) hk1 hFc hP1 hD1
  have hP := hP.sub (ws' := [(aM, .inr (5, [.ref aZ, .ref aPast, .int pastMany, .ref aKz, .int isKept, .ref aBuf, .int typed, .ref aStk, .ref aLaid, .int wid, .int hei, .ref aPcs, .ref aTold, .int toldMany, .int spot, .int wrong])), (aBuf, .inl (cC, 60, .inl buf))]) [0, 1] rfl
  have hD := hD.sub (ws' := [(aM, .inr (5, [.ref aZ, .ref aPast, .int pastMany, .ref aKz, .int isKept, .ref aBuf, .int typed, .ref aStk, .ref aLaid, .int wid, .int hei, .ref aPcs, .ref aTold, .int toldMany, .int spot, .int wrong])), (aBuf, .inl (cC, 60, .inl buf))]) [0, 1] (by decide) rfl
  generalize H1 = H at hP hS ⊢
  have hPc := hP.sub (ws' := [(aM, .inr (5, [.ref aZ, .ref aPast, .int pastMany, .ref aKz, .int isKept, .ref aBuf, .int typed, .ref aStk, .ref aLaid, .int wid, .int hei, .ref aPcs, .ref aTold, .int toldMany, .int spot, .int wrong]))]) [0] rfl
  have hDc := hD.sub (ws' := [(aM, .inr (5, [.ref aZ, .ref aPast, .int pastMany, .ref aKz, .int isKept, .ref aBuf, .int typed, .ref aStk, .ref aLaid, .int wid, .int hei, .ref aPcs, .ref aTold, .int toldMany, .int spot, .int wrong]))]) [0] (by decide) rfl
  have hFc := va_free (wc := [(aM, .inr (5, [.ref aZ, .ref aPast, .int pastMany, .ref aKz, .int isKept, .ref aBuf, .int typed, .ref aStk, .ref aLaid, .int wid, .int hei, .ref aPcs, .ref aTold, .int toldMany, .int spot, .int wrong]))]) hD hS hA [0] rfl
  refine va_callv (va_runV (As := [.int r_3]) (rest := []) ⟨hx, hb, hml, hown, hts⟩ (c_X6_wants l dC dI cI cC cS aM aZ aPast aKz aBuf aStk aLaid aPcs aTold _ pastMany isKept typed wid hei toldMany spot wrong r_3 hq) (cwV 1 hts gX6_figure_X6_wants rfl rfl rfl (by decide +kernel) ⟨Nat.le_of_ble_eq_true rfl, Nat.le_of_ble_eq_true rfl⟩) (gn_preV hPc hK hN hDc (ci := 5) (q0 := 0) rfl rfl) rfl rfl hl.1 rfl (lv_room (Nat.le_of_ble_eq_true rfl)) dX6_figure_15 ⟨Nat.zero_le _, Nat.zero_le _⟩) hS (fun q _ h => hFc q h) hFc (fun u t H1 locs ht hvm hq hB hz1 hk1 hS => ?_)
  obtain ⟨spot__4, wrong__5⟩ := u
  obtain ⟨hP1, hK1, hD1⟩ := hB
  rw [ht] at hP1
  try dsimp only at hq
  obtain ⟨hP, hD⟩ := va_join (wr := [(aBuf, .inl (cC, 60, .inl buf))]) (w1 := [(aM, .inr (5, [.ref aZ, .ref aPast, .int pastMany, .ref aKz, .int isKept, .ref aBuf, .int typed, .ref aStk, .ref aLaid, .int wid, .int hei, .ref aPcs, .ref aTold, .int toldMany, .int spot__4, .int wrong__5]))]) hP hD [0] [1] rfl rfl (by decide) (by decide) hk1 hFc hP1 hD1
  have hP := hP.sub (ws' := [(aM, .inr (5, [.ref aZ, .ref aPast, .int pastMany, .ref aKz, .int isKept, .ref aBuf, .int typed, .ref aStk, .ref aLaid, .int wid, .int hei, .ref aPcs, .ref aTold, .int toldMany, .int spot__4, .int wrong__5])), (aBuf, .inl (cC, 60, .inl buf))]) [1, 0] rfl
  have hD := hD.sub (ws' := [(aM, .inr (5, [.ref aZ, .ref aPast, .int pastMany, .ref aKz, .int isKept, .ref aBuf, .int typed, .ref aStk, .ref aLaid, .int wid, .int hei, .ref aPcs, .ref aTold, .int toldMany, .int spot__4, .int wrong__5])), (aBuf, .inl (cC, 60, .inl buf))]) [1, 0] (by decide) rfl
  generalize H1 = H at hP hS ⊢
  refine lv_iload_n hx hb dX6_figure_18 rfl (lv_at hl 0 rfl) ?_
  exact hret _ _ _ _ _ _ _ dX6_figure_19 hP hD hS hq
set_option maxRecDepth 20000 in
theorem kwX6_depth_147 : Cond.fieldLink RX6 147 "PunchedFoldsModel" "wrong" "I" ∈ wsX6_depth := by decide +kernel
set_option maxRecDepth 20000 in
theorem iwX6_depth_X6 : ∀ w ∈ wsX60, w ∈ wsX6_depth := by decide +kernel
set_option maxRecDepth 20000 in
theorem kwX6_depth_144 : Cond.fieldLink RX6 144 "PunchedFoldsModel" "spot" "I" ∈ wsX6_depth := by decide +kernel
set_option maxHeartbeats 4000000 in
set_option maxRecDepth 100000 in
theorem c_X6_depth (l : Launch) (dC : Nat → ClassId) (dI : Nat → Nat → Nat) (cI cC cS : ClassId) (aM : Nat) (aZ : Nat) (aPast : Nat) (aKz : Nat) (aBuf : Nat) (aStk : Nat) (aLaid : Nat) (aPcs : Nat) (aTold : Nat) (sz : Nat) (pastMany : Int32) (isKept : Int32) (typed : Int32) (wid : Int32) (hei : Int32) (toldMany : Int32) (spot : Int32) (wrong : Int32) (buf : Nat → Int32) {post : Int32 → Int32 → Int32 → Prop} (hq : wp_X6_depth typed spot wrong buf post) : Met l yX6_depth wsX6_depth ({ frames := 2, cells := 0, slots := 0, locals := 45 } : Room) (gn_Pre (dC, dI) cI cC cS [.ref aM] sz [(aM, .inr (5, [.ref aZ, .ref aPast, .int pastMany, .ref aKz, .int isKept, .ref aBuf, .int typed, .ref aStk, .ref aLaid, .int wid, .int hei, .ref aPcs, .ref aTold, .int toldMany, .int spot, .int wrong])), (aBuf, .inl (cC, 60, .inl buf))]) (va_Qi (fun (r : Int32) (u : Int32 × Int32) => post r u.1 u.2) (fun (u : Int32 × Int32) t => va_P (dC, dI) vwCl [(aM, .inr (5, [.ref aZ, .ref aPast, .int pastMany, .ref aKz, .int isKept, .ref aBuf, .int typed, .ref aStk, .ref aLaid, .int wid, .int hei, .ref aPcs, .ref aTold, .int toldMany, .int u.1, .int u.2])), (aBuf, .inl (cC, 60, .inl buf))] t.heap ∧ va_K (dC, dI) vwCl (gn_tys cI cC cS) t ∧ va_D (va_A [(aM, .inr (5, [.ref aZ, .ref aPast, .int pastMany, .ref aKz, .int isKept, .ref aBuf, .int typed, .ref aStk, .ref aLaid, .int wid, .int hei, .ref aPcs, .ref aTold, .int toldMany, .int spot, .int wrong])), (aBuf, .inl (cC, 60, .inl buf))] sz) [(aM, .inr (5, [.ref aZ, .ref aPast, .int pastMany, .ref aKz, .int isKept, .ref aBuf, .int typed, .ref aStk, .ref aLaid, .int wid, .int hei, .ref aPcs, .ref aTold, .int toldMany, .int u.1, .int u.2])), (aBuf, .inl (cC, 60, .inl buf))]) (va_A [(aM, .inr (5, [.ref aZ, .ref aPast, .int pastMany, .ref aKz, .int isKept, .ref aBuf, .int typed, .ref aStk, .ref aLaid, .int wid, .int hei, .ref aPcs, .ref aTold, .int toldMany, .int spot, .int wrong])), (aBuf, .inl (cC, 60, .inl buf))] sz)) 0 0 (va_A [(aM, .inr (5, [.ref aZ, .ref aPast, .int pastMany, .ref aKz, .int isKept, .ref aBuf, .int typed, .ref aStk, .ref aLaid, .int wid, .int hei, .ref aPcs, .ref aTold, .int toldMany, .int spot, .int wrong])), (aBuf, .inl (cC, 60, .inl buf))] sz) := by
  unfold wp_X6_depth at hq
  refine Met.ofW (cc := cX6_depth) (maxL := 3) (ret := (some .int)) (by decide) rfl ?_
  intro p e s m args below meth c s₁ B hml hv
  obtain ⟨rfl, hsz, hP, hK, hN, hD0⟩ := hv
  have hx := B.exec
  have hb := B.bytes
  have hr := B.returns
  have hts := atoms_spec (ws := wsX6_depth) B.pre
  have hown : s.vm.findClass RX6 = some m.cls := findClass_of_methodNamed B.named
  have hlocks := B.notSynchronized
  subst hsz
  have hD := hD0.self (sz := s.heap.size)
  generalize hAe : va_A [(aM, .inr (5, [.ref aZ, .ref aPast, .int pastMany, .ref aKz, .int isKept, .ref aBuf, .int typed, .ref aStk, .ref aLaid, .int wid, .int hei, .ref aPcs, .ref aTold, .int toldMany, .int spot, .int wrong])), (aBuf, .inl (cC, 60, .inl buf))] s.heap.size = A at hD ⊢
  have hA : ∀ q : Nat, s.heap.size ≤ q → A q := fun q h => by rw [← hAe]; exact Or.inr h
  have hS : va_S A s.heap s.heap [] := va_S.rf
  have hl := lv_entry ([.ref aM] : List Value) (n := 3) (Nat.le_of_ble_eq_true rfl)
  rw [lg_entry_eq]
  generalize (lg_sl ([.ref aM] : List Value) ++ List.replicate (3 - (lg_sl ([.ref aM] : List Value)).length) Slot.unset).toArray = ls at hl ⊢
  have hl : lv_has ls 3 [(0, .ref aM)] := hl
  refine gn_Q (hret := fun Q => ∀ (pc : Nat) (ls : Array Slot) (H : Heap) (locs : List Loc) (r : Int32) (m_spot : Int32) (m_wrong : Int32), decode cX6_depth pc = .ok (.ireturn, 1) → va_P (dC, dI) vwCl [(aM, .inr (5, [.ref aZ, .ref aPast, .int pastMany, .ref aKz, .int isKept, .ref aBuf, .int typed, .ref aStk, .ref aLaid, .int wid, .int hei, .ref aPcs, .ref aTold, .int toldMany, .int m_spot, .int m_wrong])), (aBuf, .inl (cC, 60, .inl buf))] H → va_D A [(aM, .inr (5, [.ref aZ, .ref aPast, .int pastMany, .ref aKz, .int isKept, .ref aBuf, .int typed, .ref aStk, .ref aLaid, .int wid, .int hei, .ref aPcs, .ref aTold, .int toldMany, .int m_spot, .int m_wrong])), (aBuf, .inl (cC, 60, .inl buf))] → va_S A s.heap H locs → post r m_spot m_wrong → W p l e ({ frames := 2, cells := 0, slots := 0, locals := 45 } : Room) s m ([.ref aM] : List Value).toArray below meth c H locs 0 0 Q (F0 m pc ls [.int r])) (fun Q hret => ?_) ?_
  rotate_left
  · intro pc ls H locs r m_spot m_wrong hdg hP hD hS hpost
    exact W.iret (v := r) hx hb hr (fun t ht hW => ⟨⟨r, (m_spot, m_wrong), rfl, hpost, by rw [ht]; exact hP, va_K.moved hW.alike hK, hD⟩, hS.F ht⟩) hS.2.2 hdg
  refine lv_aload_n hx hb dX6_depth_0 rfl (lv_at hl 0 rfl) ?_
  refine lv_iconst (v := 1) hx hb dX6_depth_1 (by decide) ?_
  refine lv_bipush (v := 9) hx hb dX6_depth_2 (by decide) ?_
  have hPc := hP.sub (ws' := [(aM, .inr (5, [.ref aZ, .ref aPast, .int pastMany, .ref aKz, .int isKept, .ref aBuf, .int typed, .ref aStk, .ref aLaid, .int wid, .int hei, .ref aPcs, .ref aTold, .int toldMany, .int spot, .int wrong])), (aBuf, .inl (cC, 60, .inl buf))]) [0, 1] rfl
  have hDc := hD.sub (ws' := [(aM, .inr (5, [.ref aZ, .ref aPast, .int pastMany, .ref aKz, .int isKept, .ref aBuf, .int typed, .ref aStk, .ref aLaid, .int wid, .int hei, .ref aPcs, .ref aTold, .int toldMany, .int spot, .int wrong])), (aBuf, .inl (cC, 60, .inl buf))]) [0, 1] (by decide) rfl
  have hFc := va_free (wc := [(aM, .inr (5, [.ref aZ, .ref aPast, .int pastMany, .ref aKz, .int isKept, .ref aBuf, .int typed, .ref aStk, .ref aLaid, .int wid, .int hei, .ref aPcs, .ref aTold, .int toldMany, .int spot, .int wrong])), (aBuf, .inl (cC, 60, .inl buf))]) hD hS hA [0, 1] rfl
  refine va_calli (va_runV (As := [.int (1 : Int32), .int (9 : Int32)]) (rest := []) ⟨hx, hb, hml, hown, hts⟩ (c_X6_figure l dC dI cI cC cS aM aZ aPast aKz aBuf aStk aLaid aPcs aTold _ pastMany isKept typed wid hei toldMany spot wrong buf (1 : Int32) (9 : Int32) hq) (cwV 2 hts gX6_depth_X6_figure rfl rfl rfl (by decide +kernel) ⟨Nat.le_of_ble_eq_true rfl, Nat.le_of_ble_eq_true rfl⟩) (gn_preV hPc hK hN hDc (ci := 5) (q0 := 0) rfl rfl) rfl rfl hl.1 rfl (lv_room (Nat.le_of_ble_eq_true rfl)) dX6_depth_4 ⟨Nat.zero_le _, Nat.zero_le _⟩) hS (fun q _ h => hFc q h) hFc (fun r_1 u t H1 locs ht hvm hq hB hz1 hk1 hS => ?_)
  obtain ⟨spot__2, wrong__3⟩ := u
  obtain ⟨hP1, hK1, hD1⟩ := hB
  rw [ht] at hP1
  try dsimp only at hq
  obtain ⟨hP, hD⟩ := va_join (wr := []) (w1 := [(aM, .inr (5, [.ref aZ, .ref aPast, .int pastMany, .ref aKz, .int isKept, .ref aBuf, .int typed, .ref aStk, .ref aLaid, .int wid, .int hei, .ref aPcs, .ref aTold, .int toldMany, .int spot__2, .int wrong__3])), (aBuf, .inl (cC, 60, .inl buf))]) hP hD [0, 1] [] rfl rfl (by decide) (by decide) hk1 hFc hP1 hD1
  have hP := hP.sub (ws' := [(aM, .inr (5, [.ref aZ, .ref aPast, .int pastMany, .ref aKz, .int isKept, .ref aBuf, .int typed, .ref aStk, .ref aLaid, .int wid, .int hei, .ref aPcs, .ref aTold, .int toldMany, .int spot__2, .int wrong__3])), (aBuf, .inl (cC, 60, .inl buf))]) [0, 1] rfl
  have hD := hD.sub (ws' := [(aM, .inr (5, [.ref aZ, .ref aPast, .int pastMany, .ref aKz, .int isKept, .ref aBuf, .int typed, .ref aStk, .ref aLaid, .int wid, .int hei, .ref aPcs, .ref aTold, .int toldMany, .int spot__2, .int wrong__3])), (aBuf, .inl (cC, 60, .inl buf))]) [0, 1] (by decide) rfl
  generalize H1 = H at hP hS ⊢
  refine lv_istore_n (lv' := [(1, .int r_1), (0, .ref aM)]) hx hb dX6_depth_7 rfl hl (by decide) rfl (fun ls hl => ?_)
  refine lv_aload_n hx hb dX6_depth_8 rfl (lv_at hl 1 rfl) ?_
  have hPc := hP.sub (ws' := [(aM, .inr (5, [.ref aZ, .ref aPast, .int pastMany, .ref aKz, .int isKept, .ref aBuf, .int typed, .ref aStk, .ref aLaid, .int wid, .int hei, .ref aPcs, .ref aTold, .int toldMany, .int spot__2, .int wrong__3])), (aBuf, .inl (cC, 60, .inl buf))]) [0, 1] rfl
  have hDc := hD.sub (ws' := [(aM, .inr (5, [.ref aZ, .ref aPast, .int pastMany, .ref aKz, .int isKept, .ref aBuf, .int typed, .ref aStk, .ref aLaid, .int wid, .int hei, .ref aPcs, .ref aTold, .int toldMany, .int spot__2, .int wrong__3])), (aBuf, .inl (cC, 60, .inl buf))]) [0, 1] (by decide) rfl
  have hFc := va_free (wc := [(aM, .inr (5, [.ref aZ, .ref aPast, .int pastMany, .ref aKz, .int isKept, .ref aBuf, .int typed, .ref aStk, .ref aLaid, .int wid, .int hei, .ref aPcs, .ref aTold, .int toldMany, .int spot__2, .int wrong__3])), (aBuf, .inl (cC, 60, .inl buf))]) hD hS hA [0, 1] rfl
  refine va_calli (va_runV (As := []) (rest := []) ⟨hx, hb, hml, hown, hts⟩ (c_X6_letter l dC dI cI cC cS aM aZ aPast aKz aBuf aStk aLaid aPcs aTold _ pastMany isKept typed wid hei toldMany spot__2 wrong__3 buf hq) (cwV 0 hts gX6_depth_X6_letter rfl rfl rfl (by decide +kernel) ⟨Nat.le_of_ble_eq_true rfl, Nat.le_of_ble_eq_true rfl⟩) (gn_preV hPc hK hN hDc (ci := 5) (q0 := 0) rfl rfl) rfl rfl hl.1 rfl (lv_room (Nat.le_of_ble_eq_true rfl)) dX6_depth_9 ⟨Nat.zero_le _, Nat.zero_le _⟩) hS (fun q _ h => hFc q h) hFc (fun r_4 u t H1 locs ht hvm hq hB hz1 hk1 hS => ?_)
  obtain ⟨hP1, hK1, hD1⟩ := hB
  rw [ht] at hP1
  try dsimp only at hq
  obtain ⟨hP, hD⟩ := va_join (wr := []) (w1 := [(aM, .inr (5, [.ref aZ, .ref aPast, .int pastMany, .ref aKz, .int isKept, .ref aBuf, .int typed, .ref aStk, .ref aLaid, .int wid, .int hei, .ref aPcs, .ref aTold, .int toldMany, .int spot__2, .int wrong__3])), (aBuf, .inl (cC, 60, .inl buf))]) hP hD [0, 1] [] rfl rfl (by decide) (by decide) hk1 hFc hP1 hD1
  have hP := hP.sub (ws' := [(aM, .inr (5, [.ref aZ, .ref aPast, .int pastMany, .ref aKz, .int isKept, .ref aBuf, .int typed, .ref aStk, .ref aLaid, .int wid, .int hei, .ref aPcs, .ref aTold, .int toldMany, .int spot__2, .int wrong__3])), (aBuf, .inl (cC, 60, .inl buf))]) [0, 1] rfl
  have hD := hD.sub (ws' := [(aM, .inr (5, [.ref aZ, .ref aPast, .int pastMany, .ref aKz, .int isKept, .ref aBuf, .int typed, .ref aStk, .ref aLaid, .int wid, .int hei, .ref aPcs, .ref aTold, .int toldMany, .int spot__2, .int wrong__3])), (aBuf, .inl (cC, 60, .inl buf))]) [0, 1] (by decide) rfl
  generalize H1 = H at hP hS ⊢
  refine lv_bipush (v := 48) hx hb dX6_depth_12 (by decide) ?_
  refine lv_isub hx hb dX6_depth_14 ?_
  refine lv_topi (fun w2_5 ew2_5 => ?_)
  have hq := hq w2_5 ew2_5
  refine lv_istore_n (lv' := [(2, .int w2_5), (1, .int r_1), (0, .ref aM)]) hx hb dX6_depth_15 rfl hl (by decide) rfl (fun ls hl => ?_)
  refine lv_aload_n hx hb dX6_depth_16 rfl (lv_at hl 2 rfl) ?_
  refine va_get (D := (dC, dI)) (ci := 5) (v := .int wrong__3) (C := RX6) (T := TX6) (N := 16) hx hb hts iwX6_depth_X6 hown hK hP 0 rfl rfl 15 (by decide) (hts _ kwX6_depth_147) (fun _ h9 => h9) rfl dX6_depth_17 ?_
  refine lv_bipush (v := -6) hx hb dX6_depth_20 (by decide) ?_
  have hq := hq (∀ (H : Heap) (locs : List Loc) (ls : Array Slot), va_P (dC, dI) vwCl [(aM, .inr (5, [.ref aZ, .ref aPast, .int pastMany, .ref aKz, .int isKept, .ref aBuf, .int typed, .ref aStk, .ref aLaid, .int wid, .int hei, .ref aPcs, .ref aTold, .int toldMany, .int spot__2, .int wrong__3])), (aBuf, .inl (cC, 60, .inl buf))] H → va_D A [(aM, .inr (5, [.ref aZ, .ref aPast, .int pastMany, .ref aKz, .int isKept, .ref aBuf, .int typed, .ref aStk, .ref aLaid, .int wid, .int hei, .ref aPcs, .ref aTold, .int toldMany, .int spot__2, .int wrong__3])), (aBuf, .inl (cC, 60, .inl buf))] → va_S A s.heap H locs → lv_has ls 3 [(1, .int r_1)] → W p l e ({ frames := 2, cells := 0, slots := 0, locals := 45 } : Room) s m ([.ref aM] : List Value).toArray below meth c H locs 0 0 Q (F0 m 63 ls [])) (by
    intro  hq H locs ls hP hD hS hl
    refine lv_iload_n hx hb dX6_depth_63 rfl (lv_at hl 0 rfl) ?_
    exact hret _ _ _ _ _ _ _ dX6_depth_64 hP hD hS hq)
  refine lv_icmp_ne (tgt := 63) hx hb dX6_depth_22 (by decide) (fun hc => ?_) (fun hc => ?_)
  · have hq := hq.1 hc
    exact hq _ _ _ hP hD hS (lv_sub hl [1] rfl)
  · have hq := hq.2 hc
    refine lv_iload_n hx hb dX6_depth_25 rfl (lv_at hl 0 rfl) ?_
    refine lv_iconst (v := 0) hx hb dX6_depth_26 (by decide) ?_
    refine lv_bipush (v := 9) hx hb dX6_depth_27 (by decide) ?_
    have hPc := hP.sub (ws' := []) [] rfl
    have hDc := hD.sub (ws' := []) [] (by decide) rfl
    have hFc := va_free (wc := []) hD hS hA [] rfl
    refine va_calli (va_runS (As := [.int w2_5, .int (0 : Int32), .int (9 : Int32)]) (rest := []) ⟨hx, hb, hml, hown, hts⟩ (c_X6_in l dC dI cI cC cS _ w2_5 (0 : Int32) (9 : Int32) hq) (va_cwS 3 hts gX6_depth_X6_in rfl rfl rfl (by decide +kernel) ⟨Nat.le_of_ble_eq_true rfl, Nat.le_of_ble_eq_true rfl⟩) (gn_preS hPc hK hN hDc) rfl rfl hl.1 rfl (lv_room (Nat.le_of_ble_eq_true rfl)) dX6_depth_29 ⟨Nat.zero_le _, Nat.zero_le _⟩) hS (fun q _ h => hFc q h) hFc (fun r_6 u t H1 locs ht hvm hq hB hz1 hk1 hS => ?_)
    obtain ⟨hP1, hK1, hD1⟩ := hB
    rw [ht] at hP1
    try dsimp only at hq
    obtain ⟨hP, hD⟩ := va_join (wr := [(aM, .inr (5, [.ref aZ, .ref aPast, .int pastMany, .ref aKz, .int isKept, .ref aBuf, .int typed, .ref aStk, .ref aLaid, .int wid, .int hei, .ref aPcs, .ref aTold, .int toldMany, .int spot__2, .int wrong__3])), (aBuf, .inl (cC, 60, .inl buf))]) (w1 := []) hP hD [] [0, 1] rfl rfl (by decide) (by decide) hk1 hFc hP1 hD1
    have hP := hP.sub (ws' := [(aM, .inr (5, [.ref aZ, .ref aPast, .int pastMany, .ref aKz, .int isKept, .ref aBuf, .int typed, .ref aStk, .ref aLaid, .int wid, .int hei, .ref aPcs, .ref aTold, .int toldMany, .int spot__2, .int wrong__3])), (aBuf, .inl (cC, 60, .inl buf))]) [0, 1] rfl
    have hD := hD.sub (ws' := [(aM, .inr (5, [.ref aZ, .ref aPast, .int pastMany, .ref aKz, .int isKept, .ref aBuf, .int typed, .ref aStk, .ref aLaid, .int wid, .int hei, .ref aPcs, .ref aTold, .int toldMany, .int spot__2, .int wrong__3])), (aBuf, .inl (cC, 60, .inl buf))]) [0, 1] (by decide) rfl
    generalize H1 = H at hP hS ⊢
    refine lv_if_eq (tgt := 63) hx hb dX6_depth_32 (by decide) (fun hc => ?_) (fun hc => ?_)
    · have hq := hq.1 hc
      exact hq _ _ _ hP hD hS (lv_sub hl [1] rfl)
    · have hq := hq.2 hc
      refine lv_bipush (v := 10) hx hb dX6_depth_35 (by decide) ?_
      refine lv_iload_n hx hb dX6_depth_37 rfl (lv_at hl 1 rfl) ?_
      refine lv_imul hx hb dX6_depth_38 ?_
      refine lv_iload_n hx hb dX6_depth_39 rfl (lv_at hl 0 rfl) ?_
      refine lv_iadd hx hb dX6_depth_40 ?_
      refine lv_bipush (v := 64) hx hb dX6_depth_41 (by decide) ?_
      refine lv_icmp_gt (tgt := 63) hx hb dX6_depth_43 (by decide) (fun hc => ?_) (fun hc => ?_)
      · have hq := hq.1 hc
        exact hq _ _ _ hP hD hS (lv_sub hl [1] rfl)
      · have hq := hq.2 hc
        refine lv_aload_n hx hb dX6_depth_46 rfl (lv_at hl 2 rfl) ?_
        refine lv_dup hx hb dX6_depth_47 rfl ?_
        refine va_get (D := (dC, dI)) (ci := 5) (v := .int spot__2) (C := RX6) (T := TX6) (N := 16) hx hb hts iwX6_depth_X6 hown hK hP 0 rfl rfl 14 (by decide) (hts _ kwX6_depth_144) (fun _ h9 => h9) rfl dX6_depth_48 ?_
        refine lv_iconst (v := 1) hx hb dX6_depth_51 (by decide) ?_
        refine lv_iadd hx hb dX6_depth_52 ?_
        refine va_put (D := (dC, dI)) (ci := 5) (v := .int (spot__2 + (1 : Int32))) (ty := .int) (C := RX6) (T := TX6) (N := 16) hx hb hts iwX6_depth_X6 tyX6 tyX6_ok nmX6 hown hK hP hD hS 0 rfl rfl 14 (by decide) (hts _ kwX6_depth_144) (fun _ h9 => h9) rfl (by decide +kernel) rfl rfl (Nat.le_of_ble_eq_true rfl) dX6_depth_53 (fun H locs hP hD hS => ?_)
        have hP : va_P (dC, dI) vwCl [(aM, .inr (5, [.ref aZ, .ref aPast, .int pastMany, .ref aKz, .int isKept, .ref aBuf, .int typed, .ref aStk, .ref aLaid, .int wid, .int hei, .ref aPcs, .ref aTold, .int toldMany, .int (spot__2 + (1 : Int32)), .int wrong__3])), (aBuf, .inl (cC, 60, .inl buf))] H := hP
        have hD : va_D A [(aM, .inr (5, [.ref aZ, .ref aPast, .int pastMany, .ref aKz, .int isKept, .ref aBuf, .int typed, .ref aStk, .ref aLaid, .int wid, .int hei, .ref aPcs, .ref aTold, .int toldMany, .int (spot__2 + (1 : Int32)), .int wrong__3])), (aBuf, .inl (cC, 60, .inl buf))] := hD
        refine lv_bipush (v := 10) hx hb dX6_depth_56 (by decide) ?_
        refine lv_iload_n hx hb dX6_depth_58 rfl (lv_at hl 1 rfl) ?_
        refine lv_imul hx hb dX6_depth_59 ?_
        refine lv_iload_n hx hb dX6_depth_60 rfl (lv_at hl 0 rfl) ?_
        refine lv_iadd hx hb dX6_depth_61 ?_
        exact hret _ _ _ _ _ _ _ dX6_depth_62 hP hD hS hq
set_option maxHeartbeats 4000000 in
set_option maxRecDepth 100000 in
theorem c_X6_foldBy (l : Launch) (dC : Nat → ClassId) (dI : Nat → Nat → Nat) (cI cC cS : ClassId) (sz : Nat) (x0 : Int32) {post : Int32 → Prop} (hq : wp_X6_foldBy x0 post) : Met l yX6_foldBy wsX6_foldBy ({ frames := 0, cells := 0, slots := 0, locals := 0 } : Room) (gn_Pre (dC, dI) cI cC cS [.int x0] sz []) (va_Qi (fun (r : Int32) (u : Unit) => post r) (fun (u : Unit) t => va_P (dC, dI) vwCl [] t.heap ∧ va_K (dC, dI) vwCl (gn_tys cI cC cS) t ∧ va_D (va_A [] sz) []) (va_A [] sz)) 0 0 (va_A [] sz) := by
  unfold wp_X6_foldBy at hq
  refine Met.ofW (cc := cX6_foldBy) (maxL := 1) (ret := (some .int)) (by decide) rfl ?_
  intro p e s m args below meth c s₁ B hml hv
  obtain ⟨rfl, hsz, hP, hK, hN, hD0⟩ := hv
  have hx := B.exec
  have hb := B.bytes
  have hr := B.returns
  have hts := atoms_spec (ws := wsX6_foldBy) B.pre
  have hown : s.vm.findClass RX6 = some m.cls := findClass_of_methodNamed B.named
  have hlocks := B.notSynchronized
  subst hsz
  have hD := hD0.self (sz := s.heap.size)
  generalize hAe : va_A [] s.heap.size = A at hD ⊢
  have hA : ∀ q : Nat, s.heap.size ≤ q → A q := fun q h => by rw [← hAe]; exact Or.inr h
  have hS : va_S A s.heap s.heap [] := va_S.rf
  have hl := lv_entry ([.int x0] : List Value) (n := 1) (Nat.le_of_ble_eq_true rfl)
  rw [lg_entry_eq]
  generalize (lg_sl ([.int x0] : List Value) ++ List.replicate (1 - (lg_sl ([.int x0] : List Value)).length) Slot.unset).toArray = ls at hl ⊢
  have hl : lv_has ls 1 [(0, .int x0)] := hl
  refine gn_Q (hret := fun Q => ∀ (pc : Nat) (ls : Array Slot) (H : Heap) (locs : List Loc) (r : Int32) , decode cX6_foldBy pc = .ok (.ireturn, 1) → va_P (dC, dI) vwCl [] H → va_D A [] → va_S A s.heap H locs → post r → W p l e ({ frames := 0, cells := 0, slots := 0, locals := 0 } : Room) s m ([.int x0] : List Value).toArray below meth c H locs 0 0 Q (F0 m pc ls [.int r])) (fun Q hret => ?_) ?_
  rotate_left
  · intro pc ls H locs r hdg hP hD hS hpost
    exact W.iret (v := r) hx hb hr (fun t ht hW => ⟨⟨r, (), rfl, hpost, by rw [ht]; exact hP, va_K.moved hW.alike hK, hD⟩, hS.F ht⟩) hS.2.2 hdg
  refine lv_iload_n hx hb dX6_foldBy_0 rfl (lv_at hl 0 rfl) ?_
  refine lv_bipush (v := 76) hx hb dX6_foldBy_1 (by decide) ?_
  refine lv_icmp_ne (tgt := 10) hx hb dX6_foldBy_3 (by decide) (fun hc => ?_) (fun hc => ?_)
  · have hq := hq.1 hc
    refine lv_iload_n hx hb dX6_foldBy_10 rfl (lv_at hl 0 rfl) ?_
    refine lv_bipush (v := 82) hx hb dX6_foldBy_11 (by decide) ?_
    refine lv_icmp_ne (tgt := 20) hx hb dX6_foldBy_13 (by decide) (fun hc => ?_) (fun hc => ?_)
    · have hq := hq.1 hc
      refine lv_iload_n hx hb dX6_foldBy_20 rfl (lv_at hl 0 rfl) ?_
      refine lv_bipush (v := 84) hx hb dX6_foldBy_21 (by decide) ?_
      refine lv_icmp_ne (tgt := 30) hx hb dX6_foldBy_23 (by decide) (fun hc => ?_) (fun hc => ?_)
      · have hq := hq.1 hc
        refine lv_iload_n hx hb dX6_foldBy_30 rfl (lv_at hl 0 rfl) ?_
        refine lv_bipush (v := 66) hx hb dX6_foldBy_31 (by decide) ?_
        refine lv_icmp_ne (tgt := 40) hx hb dX6_foldBy_33 (by decide) (fun hc => ?_) (fun hc => ?_)
        · have hq := hq.1 hc
          refine lv_bipush (v := -6) hx hb dX6_foldBy_40 (by decide) ?_
          exact hret _ _ _ _ _ dX6_foldBy_42 hP hD hS hq
        · have hq := hq.2 hc
          refine lv_iconst (v := 3) hx hb dX6_foldBy_36 (by decide) ?_
          refine lv_goto (tgt := 42) hx hb dX6_foldBy_37 (by decide) ?_
          exact hret _ _ _ _ _ dX6_foldBy_42 hP hD hS hq
      · have hq := hq.2 hc
        refine lv_iconst (v := 2) hx hb dX6_foldBy_26 (by decide) ?_
        refine lv_goto (tgt := 42) hx hb dX6_foldBy_27 (by decide) ?_
        exact hret _ _ _ _ _ dX6_foldBy_42 hP hD hS hq
    · have hq := hq.2 hc
      refine lv_iconst (v := 1) hx hb dX6_foldBy_16 (by decide) ?_
      refine lv_goto (tgt := 42) hx hb dX6_foldBy_17 (by decide) ?_
      exact hret _ _ _ _ _ dX6_foldBy_42 hP hD hS hq
  · have hq := hq.2 hc
    refine lv_iconst (v := 0) hx hb dX6_foldBy_6 (by decide) ?_
    refine lv_goto (tgt := 42) hx hb dX6_foldBy_7 (by decide) ?_
    exact hret _ _ _ _ _ dX6_foldBy_42 hP hD hS hq
set_option maxRecDepth 20000 in
theorem kwX6_readWork_163 : Cond.fieldLink RX6 163 "PunchedFoldsModel" "toldMany" "I" ∈ wsX6_readWork := by decide +kernel
set_option maxRecDepth 20000 in
theorem iwX6_readWork_X6 : ∀ w ∈ wsX60, w ∈ wsX6_readWork := by decide +kernel
set_option maxRecDepth 20000 in
theorem kwX6_readWork_32 : Cond.fieldLink RX6 32 "PunchedFoldsModel" "told" "[I" ∈ wsX6_readWork := by decide +kernel
set_option maxRecDepth 20000 in
theorem kwX6_readWork_147 : Cond.fieldLink RX6 147 "PunchedFoldsModel" "wrong" "I" ∈ wsX6_readWork := by decide +kernel
set_option maxRecDepth 20000 in
theorem kwX6_readWork_144 : Cond.fieldLink RX6 144 "PunchedFoldsModel" "spot" "I" ∈ wsX6_readWork := by decide +kernel
set_option maxHeartbeats 4000000 in
set_option maxRecDepth 100000 in
theorem c_X6_readWork (l : Launch) (dC : Nat → ClassId) (dI : Nat → Nat → Nat) (cI cC cS : ClassId) (aM : Nat) (aZ : Nat) (aPast : Nat) (aKz : Nat) (aBuf : Nat) (aStk : Nat) (aLaid : Nat) (aPcs : Nat) (aTold : Nat) (sz : Nat) (pastMany : Int32) (isKept : Int32) (typed : Int32) (wid : Int32) (hei : Int32) (toldMany : Int32) (spot : Int32) (wrong : Int32) (buf : Nat → Int32) (told : Nat → Int32) {post : Int32 → Int32 → Int32 → (Nat → Int32) → Prop} (hq : wp_X6_readWork typed toldMany spot wrong buf told post) : Met l yX6_readWork wsX6_readWork ({ frames := 3, cells := 0, slots := 0, locals := 67 } : Room) (gn_Pre (dC, dI) cI cC cS [.ref aM] sz [(aM, .inr (5, [.ref aZ, .ref aPast, .int pastMany, .ref aKz, .int isKept, .ref aBuf, .int typed, .ref aStk, .ref aLaid, .int wid, .int hei, .ref aPcs, .ref aTold, .int toldMany, .int spot, .int wrong])), (aBuf, .inl (cC, 60, .inl buf)), (aTold, .inl (cI, 240, .inl told))]) (va_Qv (fun (u : Int32 × Int32 × Int32 × (Nat → Int32)) => post u.1 u.2.1 u.2.2.1 u.2.2.2) (fun (u : Int32 × Int32 × Int32 × (Nat → Int32)) t => va_P (dC, dI) vwCl [(aM, .inr (5, [.ref aZ, .ref aPast, .int pastMany, .ref aKz, .int isKept, .ref aBuf, .int typed, .ref aStk, .ref aLaid, .int wid, .int hei, .ref aPcs, .ref aTold, .int u.1, .int u.2.1, .int u.2.2.1])), (aBuf, .inl (cC, 60, .inl buf)), (aTold, .inl (cI, 240, .inl u.2.2.2))] t.heap ∧ va_K (dC, dI) vwCl (gn_tys cI cC cS) t ∧ va_D (va_A [(aM, .inr (5, [.ref aZ, .ref aPast, .int pastMany, .ref aKz, .int isKept, .ref aBuf, .int typed, .ref aStk, .ref aLaid, .int wid, .int hei, .ref aPcs, .ref aTold, .int toldMany, .int spot, .int wrong])), (aBuf, .inl (cC, 60, .inl buf)), (aTold, .inl (cI, 240, .inl told))] sz) [(aM, .inr (5, [.ref aZ, .ref aPast, .int pastMany, .ref aKz, .int isKept, .ref aBuf, .int typed, .ref aStk, .ref aLaid, .int wid, .int hei, .ref aPcs, .ref aTold, .int u.1, .int u.2.1, .int u.2.2.1])), (aBuf, .inl (cC, 60, .inl buf)), (aTold, .inl (cI, 240, .inl u.2.2.2))]) (va_A [(aM, .inr (5, [.ref aZ, .ref aPast, .int pastMany, .ref aKz, .int isKept, .ref aBuf, .int typed, .ref aStk, .ref aLaid, .int wid, .int hei, .ref aPcs, .ref aTold, .int toldMany, .int spot, .int wrong])), (aBuf, .inl (cC, 60, .inl buf)), (aTold, .inl (cI, 240, .inl told))] sz)) 0 0 (va_A [(aM, .inr (5, [.ref aZ, .ref aPast, .int pastMany, .ref aKz, .int isKept, .ref aBuf, .int typed, .ref aStk, .ref aLaid, .int wid, .int hei, .ref aPcs, .ref aTold, .int toldMany, .int spot, .int wrong])), (aBuf, .inl (cC, 60, .inl buf)), (aTold, .inl (cI, 240, .inl told))] sz) := by
  unfold wp_X6_readWork at hq
  refine Met.ofW (cc := cX6_readWork) (maxL := 3) (ret := none) (by decide) rfl ?_
  intro p e s m args below meth c s₁ B hml hv
  obtain ⟨rfl, hsz, hP, hK, hN, hD0⟩ := hv
  have hx := B.exec
  have hb := B.bytes
  have hr := B.returns
  have hts := atoms_spec (ws := wsX6_readWork) B.pre
  have hown : s.vm.findClass RX6 = some m.cls := findClass_of_methodNamed B.named
  have hlocks := B.notSynchronized
  subst hsz
  have hD := hD0.self (sz := s.heap.size)
  generalize hAe : va_A [(aM, .inr (5, [.ref aZ, .ref aPast, .int pastMany, .ref aKz, .int isKept, .ref aBuf, .int typed, .ref aStk, .ref aLaid, .int wid, .int hei, .ref aPcs, .ref aTold, .int toldMany, .int spot, .int wrong])), (aBuf, .inl (cC, 60, .inl buf)), (aTold, .inl (cI, 240, .inl told))] s.heap.size = A at hD ⊢
  have hA : ∀ q : Nat, s.heap.size ≤ q → A q := fun q h => by rw [← hAe]; exact Or.inr h
  have hS : va_S A s.heap s.heap [] := va_S.rf
  have hl := lv_entry ([.ref aM] : List Value) (n := 3) (Nat.le_of_ble_eq_true rfl)
  rw [lg_entry_eq]
  generalize (lg_sl ([.ref aM] : List Value) ++ List.replicate (3 - (lg_sl ([.ref aM] : List Value)).length) Slot.unset).toArray = ls at hl ⊢
  have hl : lv_has ls 3 [(0, .ref aM)] := hl
  refine gn_Q (hret := fun Q => ∀ (pc : Nat) (ls : Array Slot) (H : Heap) (locs : List Loc) (m_toldMany : Int32) (m_spot : Int32) (m_wrong : Int32) (m_told : Nat → Int32), decode cX6_readWork pc = .ok (.return_, 1) → va_P (dC, dI) vwCl [(aM, .inr (5, [.ref aZ, .ref aPast, .int pastMany, .ref aKz, .int isKept, .ref aBuf, .int typed, .ref aStk, .ref aLaid, .int wid, .int hei, .ref aPcs, .ref aTold, .int m_toldMany, .int m_spot, .int m_wrong])), (aBuf, .inl (cC, 60, .inl buf)), (aTold, .inl (cI, 240, .inl m_told))] H → va_D A [(aM, .inr (5, [.ref aZ, .ref aPast, .int pastMany, .ref aKz, .int isKept, .ref aBuf, .int typed, .ref aStk, .ref aLaid, .int wid, .int hei, .ref aPcs, .ref aTold, .int m_toldMany, .int m_spot, .int m_wrong])), (aBuf, .inl (cC, 60, .inl buf)), (aTold, .inl (cI, 240, .inl m_told))] → va_S A s.heap H locs → post m_toldMany m_spot m_wrong m_told → W p l e ({ frames := 3, cells := 0, slots := 0, locals := 67 } : Room) s m ([.ref aM] : List Value).toArray below meth c H locs 0 0 Q (F0 m pc ls [])) (fun Q hret => ?_) ?_
  rotate_left
  · intro pc ls H locs m_toldMany m_spot m_wrong m_told hdg hP hD hS hpost
    exact W.vret hx hb hr (fun t ht hW => ⟨⟨(m_toldMany, m_spot, m_wrong, m_told), rfl, hpost, by rw [ht]; exact hP, va_K.moved hW.alike hK, hD⟩, hS.F ht⟩) hS.2.2 hdg
  refine lv_aload_n hx hb dX6_readWork_0 rfl (lv_at hl 0 rfl) ?_
  have hPc := hP.sub (ws' := [(aM, .inr (5, [.ref aZ, .ref aPast, .int pastMany, .ref aKz, .int isKept, .ref aBuf, .int typed, .ref aStk, .ref aLaid, .int wid, .int hei, .ref aPcs, .ref aTold, .int toldMany, .int spot, .int wrong])), (aBuf, .inl (cC, 60, .inl buf))]) [0, 1] rfl
  have hDc := hD.sub (ws' := [(aM, .inr (5, [.ref aZ, .ref aPast, .int pastMany, .ref aKz, .int isKept, .ref aBuf, .int typed, .ref aStk, .ref aLaid, .int wid, .int hei, .ref aPcs, .ref aTold, .int toldMany, .int spot, .int wrong])), (aBuf, .inl (cC, 60, .inl buf))]) [0, 1] (by decide) rfl
  have hFc := va_free (wc := [(aM, .inr (5, [.ref aZ, .ref aPast, .int pastMany, .ref aKz, .int isKept, .ref aBuf, .int typed, .ref aStk, .ref aLaid, .int wid, .int hei, .ref aPcs, .ref aTold, .int toldMany, .int spot, .int wrong])), (aBuf, .inl (cC, 60, .inl buf))]) hD hS hA [0, 1] rfl
  refine va_calli (va_runV (As := []) (rest := []) ⟨hx, hb, hml, hown, hts⟩ (c_X6_letter l dC dI cI cC cS aM aZ aPast aKz aBuf aStk aLaid aPcs aTold _ pastMany isKept typed wid hei toldMany spot wrong buf hq) (cwV 0 hts gX6_readWork_X6_letter rfl rfl rfl (by decide +kernel) ⟨Nat.le_of_ble_eq_true rfl, Nat.le_of_ble_eq_true rfl⟩) (gn_preV hPc hK hN hDc (ci := 5) (q0 := 0) rfl rfl) rfl rfl hl.1 rfl (lv_room (Nat.le_of_ble_eq_true rfl)) dX6_readWork_1 ⟨Nat.zero_le _, Nat.zero_le _⟩) hS (fun q _ h => hFc q h) hFc (fun r_1 u t H1 locs ht hvm hq hB hz1 hk1 hS => ?_)
  obtain ⟨hP1, hK1, hD1⟩ := hB
  rw [ht] at hP1
  try dsimp only at hq
  obtain ⟨hP, hD⟩ := va_join (wr := [(aTold, .inl (cI, 240, .inl told))]) (w1 := [(aM, .inr (5, [.ref aZ, .ref aPast, .int pastMany, .ref aKz, .int isKept, .ref aBuf, .int typed, .ref aStk, .ref aLaid, .int wid, .int hei, .ref aPcs, .ref aTold, .int toldMany, .int spot, .int wrong])), (aBuf, .inl (cC, 60, .inl buf))]) hP hD [0, 1] [2] rfl rfl (by decide) (by decide) hk1 hFc hP1 hD1
  have hP := hP.sub (ws' := [(aM, .inr (5, [.ref aZ, .ref aPast, .int pastMany, .ref aKz, .int isKept, .ref aBuf, .int typed, .ref aStk, .ref aLaid, .int wid, .int hei, .ref aPcs, .ref aTold, .int toldMany, .int spot, .int wrong])), (aBuf, .inl (cC, 60, .inl buf)), (aTold, .inl (cI, 240, .inl told))]) [1, 2, 0] rfl
  have hD := hD.sub (ws' := [(aM, .inr (5, [.ref aZ, .ref aPast, .int pastMany, .ref aKz, .int isKept, .ref aBuf, .int typed, .ref aStk, .ref aLaid, .int wid, .int hei, .ref aPcs, .ref aTold, .int toldMany, .int spot, .int wrong])), (aBuf, .inl (cC, 60, .inl buf)), (aTold, .inl (cI, 240, .inl told))]) [1, 2, 0] (by decide) rfl
  generalize H1 = H at hP hS ⊢
  refine lv_istore_n (lv' := [(1, .int r_1), (0, .ref aM)]) hx hb dX6_readWork_4 rfl hl (by decide) rfl (fun ls hl => ?_)
  refine lv_aload_n hx hb dX6_readWork_5 rfl (lv_at hl 1 rfl) ?_
  refine lv_iload_n hx hb dX6_readWork_6 rfl (lv_at hl 0 rfl) ?_
  have hPc := hP.sub (ws' := []) [] rfl
  have hDc := hD.sub (ws' := []) [] (by decide) rfl
  have hFc := va_free (wc := []) hD hS hA [] rfl
  refine va_calli (va_runS (As := [.int r_1]) (rest := [.ref aM]) ⟨hx, hb, hml, hown, hts⟩ (c_X6_foldBy l dC dI cI cC cS _ r_1 hq) (va_cwS 1 hts gX6_readWork_X6_foldBy rfl rfl rfl (by decide +kernel) ⟨Nat.le_of_ble_eq_true rfl, Nat.le_of_ble_eq_true rfl⟩) (gn_preS hPc hK hN hDc) rfl rfl hl.1 rfl (lv_room (Nat.le_of_ble_eq_true rfl)) dX6_readWork_7 ⟨Nat.zero_le _, Nat.zero_le _⟩) hS (fun q _ h => hFc q h) hFc (fun r_2 u t H1 locs ht hvm hq hB hz1 hk1 hS => ?_)
  obtain ⟨hP1, hK1, hD1⟩ := hB
  rw [ht] at hP1
  try dsimp only at hq
  obtain ⟨hP, hD⟩ := va_join (wr := [(aM, .inr (5, [.ref aZ, .ref aPast, .int pastMany, .ref aKz, .int isKept, .ref aBuf, .int typed, .ref aStk, .ref aLaid, .int wid, .int hei, .ref aPcs, .ref aTold, .int toldMany, .int spot, .int wrong])), (aBuf, .inl (cC, 60, .inl buf)), (aTold, .inl (cI, 240, .inl told))]) (w1 := []) hP hD [] [0, 1, 2] rfl rfl (by decide) (by decide) hk1 hFc hP1 hD1
  have hP := hP.sub (ws' := [(aM, .inr (5, [.ref aZ, .ref aPast, .int pastMany, .ref aKz, .int isKept, .ref aBuf, .int typed, .ref aStk, .ref aLaid, .int wid, .int hei, .ref aPcs, .ref aTold, .int toldMany, .int spot, .int wrong])), (aBuf, .inl (cC, 60, .inl buf)), (aTold, .inl (cI, 240, .inl told))]) [0, 1, 2] rfl
  have hD := hD.sub (ws' := [(aM, .inr (5, [.ref aZ, .ref aPast, .int pastMany, .ref aKz, .int isKept, .ref aBuf, .int typed, .ref aStk, .ref aLaid, .int wid, .int hei, .ref aPcs, .ref aTold, .int toldMany, .int spot, .int wrong])), (aBuf, .inl (cC, 60, .inl buf)), (aTold, .inl (cI, 240, .inl told))]) [0, 1, 2] (by decide) rfl
  generalize H1 = H at hP hS ⊢
  refine lv_bipush (v := -6) hx hb dX6_readWork_10 (by decide) ?_
  have hq := hq (fun (t_3 : Int32) => ∀ (H : Heap) (locs : List Loc) (ls : Array Slot), va_P (dC, dI) vwCl [(aM, .inr (5, [.ref aZ, .ref aPast, .int pastMany, .ref aKz, .int isKept, .ref aBuf, .int typed, .ref aStk, .ref aLaid, .int wid, .int hei, .ref aPcs, .ref aTold, .int toldMany, .int spot, .int wrong])), (aBuf, .inl (cC, 60, .inl buf)), (aTold, .inl (cI, 240, .inl told))] H → va_D A [(aM, .inr (5, [.ref aZ, .ref aPast, .int pastMany, .ref aKz, .int isKept, .ref aBuf, .int typed, .ref aStk, .ref aLaid, .int wid, .int hei, .ref aPcs, .ref aTold, .int toldMany, .int spot, .int wrong])), (aBuf, .inl (cC, 60, .inl buf)), (aTold, .inl (cI, 240, .inl told))] → va_S A s.heap H locs → lv_has ls 3 [(0, .ref aM), (1, .int r_1)] → W p l e ({ frames := 3, cells := 0, slots := 0, locals := 67 } : Room) s m ([.ref aM] : List Value).toArray below meth c H locs 0 0 Q (F0 m 38 ls [.int t_3, .ref aM])) (by
    intro t_3 hq H locs ls hP hD hS hl
    have hPc := hP.sub (ws' := [(aM, .inr (5, [.ref aZ, .ref aPast, .int pastMany, .ref aKz, .int isKept, .ref aBuf, .int typed, .ref aStk, .ref aLaid, .int wid, .int hei, .ref aPcs, .ref aTold, .int toldMany, .int spot, .int wrong]))]) [0] rfl
    have hDc := hD.sub (ws' := [(aM, .inr (5, [.ref aZ, .ref aPast, .int pastMany, .ref aKz, .int isKept, .ref aBuf, .int typed, .ref aStk, .ref aLaid, .int wid, .int hei, .ref aPcs, .ref aTold, .int toldMany, .int spot, .int wrong]))]) [0] (by decide) rfl
    have hFc := va_free (wc := [(aM, .inr (5, [.ref aZ, .ref aPast, .int pastMany, .ref aKz, .int isKept, .ref aBuf, .int typed, .ref aStk, .ref aLaid, .int wid, .int hei, .ref aPcs, .ref aTold, .int toldMany, .int spot, .int wrong]))]) hD hS hA [0] rfl
    refine va_callv (va_runV (As := [.int t_3]) (rest := []) ⟨hx, hb, hml, hown, hts⟩ (c_X6_wants l dC dI cI cC cS aM aZ aPast aKz aBuf aStk aLaid aPcs aTold _ pastMany isKept typed wid hei toldMany spot wrong t_3 hq) (cwV 1 hts gX6_readWork_X6_wants rfl rfl rfl (by decide +kernel) ⟨Nat.le_of_ble_eq_true rfl, Nat.le_of_ble_eq_true rfl⟩) (gn_preV hPc hK hN hDc (ci := 5) (q0 := 0) rfl rfl) rfl rfl hl.1 rfl (lv_room (Nat.le_of_ble_eq_true rfl)) dX6_readWork_38 ⟨Nat.zero_le _, Nat.zero_le _⟩) hS (fun q _ h => hFc q h) hFc (fun u t H1 locs ht hvm hq hB hz1 hk1 hS => ?_)
    obtain ⟨spot__4, wrong__5⟩ := u
    obtain ⟨hP1, hK1, hD1⟩ := hB
    rw [ht] at hP1
    try dsimp only at hq
    obtain ⟨hP, hD⟩ := va_join (wr := [(aBuf, .inl (cC, 60, .inl buf)), (aTold, .inl (cI, 240, .inl told))]) (w1 := [(aM, .inr (5, [.ref aZ, .ref aPast, .int pastMany, .ref aKz, .int isKept, .ref aBuf, .int typed, .ref aStk, .ref aLaid, .int wid, .int hei, .ref aPcs, .ref aTold, .int toldMany, .int spot__4, .int wrong__5]))]) hP hD [0] [1, 2] rfl rfl (by decide) (by decide) hk1 hFc hP1 hD1
    have hP := hP.sub (ws' := [(aM, .inr (5, [.ref aZ, .ref aPast, .int pastMany, .ref aKz, .int isKept, .ref aBuf, .int typed, .ref aStk, .ref aLaid, .int wid, .int hei, .ref aPcs, .ref aTold, .int toldMany, .int spot__4, .int wrong__5])), (aBuf, .inl (cC, 60, .inl buf)), (aTold, .inl (cI, 240, .inl told))]) [2, 0, 1] rfl
    have hD := hD.sub (ws' := [(aM, .inr (5, [.ref aZ, .ref aPast, .int pastMany, .ref aKz, .int isKept, .ref aBuf, .int typed, .ref aStk, .ref aLaid, .int wid, .int hei, .ref aPcs, .ref aTold, .int toldMany, .int spot__4, .int wrong__5])), (aBuf, .inl (cC, 60, .inl buf)), (aTold, .inl (cI, 240, .inl told))]) [2, 0, 1] (by decide) rfl
    generalize H1 = H at hP hS ⊢
    refine lv_iconst (v := 4) hx hb dX6_readWork_41 (by decide) ?_
    refine lv_aload_n hx hb dX6_readWork_42 rfl (lv_at hl 0 rfl) ?_
    refine va_get (D := (dC, dI)) (ci := 5) (v := .int toldMany) (C := RX6) (T := TX6) (N := 16) hx hb hts iwX6_readWork_X6 hown hK hP 0 rfl rfl 13 (by decide) (hts _ kwX6_readWork_163) (fun _ h9 => h9) rfl dX6_readWork_43 ?_
    refine lv_imul hx hb dX6_readWork_46 ?_
    refine lv_topi (fun w2_6 ew2_6 => ?_)
    have hq := hq w2_6 ew2_6
    refine lv_istore_n (lv' := [(2, .int w2_6), (0, .ref aM), (1, .int r_1)]) hx hb dX6_readWork_47 rfl hl (by decide) rfl (fun ls hl => ?_)
    refine lv_aload_n hx hb dX6_readWork_48 rfl (lv_at hl 1 rfl) ?_
    refine va_get (D := (dC, dI)) (ci := 5) (v := .ref aTold) (C := RX6) (T := TX6) (N := 16) hx hb hts iwX6_readWork_X6 hown hK hP 0 rfl rfl 12 (by decide) (hts _ kwX6_readWork_32) (fun _ h9 => h9) rfl dX6_readWork_49 ?_
    refine lv_iload_n hx hb dX6_readWork_52 rfl (lv_at hl 0 rfl) ?_
    refine lv_iload_n hx hb dX6_readWork_53 rfl (lv_at hl 2 rfl) ?_
    have hin := hq.1
    have hq := hq.2
    refine va_iast hx hb hK hP hD hS 2 0 rfl rfl hin dX6_readWork_54 (fun H locs hP hD hS => ?_)
    have hP : va_P (dC, dI) vwCl [(aM, .inr (5, [.ref aZ, .ref aPast, .int pastMany, .ref aKz, .int isKept, .ref aBuf, .int typed, .ref aStk, .ref aLaid, .int wid, .int hei, .ref aPcs, .ref aTold, .int toldMany, .int spot__4, .int wrong__5])), (aBuf, .inl (cC, 60, .inl buf)), (aTold, .inl (cI, 240, .inl (upd told (w2_6).toNatClampNeg r_1)))] H := hP
    have hD : va_D A [(aM, .inr (5, [.ref aZ, .ref aPast, .int pastMany, .ref aKz, .int isKept, .ref aBuf, .int typed, .ref aStk, .ref aLaid, .int wid, .int hei, .ref aPcs, .ref aTold, .int toldMany, .int spot__4, .int wrong__5])), (aBuf, .inl (cC, 60, .inl buf)), (aTold, .inl (cI, 240, .inl (upd told (w2_6).toNatClampNeg r_1)))] := hD
    refine lv_aload_n hx hb dX6_readWork_55 rfl (lv_at hl 1 rfl) ?_
    refine va_get (D := (dC, dI)) (ci := 5) (v := .ref aTold) (C := RX6) (T := TX6) (N := 16) hx hb hts iwX6_readWork_X6 hown hK hP 0 rfl rfl 12 (by decide) (hts _ kwX6_readWork_32) (fun _ h9 => h9) rfl dX6_readWork_56 ?_
    refine lv_iload_n hx hb dX6_readWork_59 rfl (lv_at hl 0 rfl) ?_
    refine lv_iconst (v := 3) hx hb dX6_readWork_60 (by decide) ?_
    refine lv_iadd hx hb dX6_readWork_61 ?_
    refine lv_iconst (v := 0) hx hb dX6_readWork_62 (by decide) ?_
    have hin := hq.1
    have hq := hq.2
    refine va_iast hx hb hK hP hD hS 2 0 rfl rfl hin dX6_readWork_63 (fun H locs hP hD hS => ?_)
    have hP : va_P (dC, dI) vwCl [(aM, .inr (5, [.ref aZ, .ref aPast, .int pastMany, .ref aKz, .int isKept, .ref aBuf, .int typed, .ref aStk, .ref aLaid, .int wid, .int hei, .ref aPcs, .ref aTold, .int toldMany, .int spot__4, .int wrong__5])), (aBuf, .inl (cC, 60, .inl buf)), (aTold, .inl (cI, 240, .inl (upd (upd told (w2_6).toNatClampNeg r_1) ((w2_6 + (3 : Int32))).toNatClampNeg (0 : Int32))))] H := hP
    have hD : va_D A [(aM, .inr (5, [.ref aZ, .ref aPast, .int pastMany, .ref aKz, .int isKept, .ref aBuf, .int typed, .ref aStk, .ref aLaid, .int wid, .int hei, .ref aPcs, .ref aTold, .int toldMany, .int spot__4, .int wrong__5])), (aBuf, .inl (cC, 60, .inl buf)), (aTold, .inl (cI, 240, .inl (upd (upd told (w2_6).toNatClampNeg r_1) ((w2_6 + (3 : Int32))).toNatClampNeg (0 : Int32))))] := hD
    refine lv_iload_n hx hb dX6_readWork_64 rfl (lv_at hl 2 rfl) ?_
    refine lv_bipush (v := 80) hx hb dX6_readWork_65 (by decide) ?_
    have hq := hq (fun (spot__7 : Int32) (wrong__8 : Int32) (told__9 : Nat → Int32) => ∀ (H : Heap) (locs : List Loc) (ls : Array Slot), va_P (dC, dI) vwCl [(aM, .inr (5, [.ref aZ, .ref aPast, .int pastMany, .ref aKz, .int isKept, .ref aBuf, .int typed, .ref aStk, .ref aLaid, .int wid, .int hei, .ref aPcs, .ref aTold, .int toldMany, .int spot__7, .int wrong__8])), (aBuf, .inl (cC, 60, .inl buf)), (aTold, .inl (cI, 240, .inl told__9))] H → va_D A [(aM, .inr (5, [.ref aZ, .ref aPast, .int pastMany, .ref aKz, .int isKept, .ref aBuf, .int typed, .ref aStk, .ref aLaid, .int wid, .int hei, .ref aPcs, .ref aTold, .int toldMany, .int spot__7, .int wrong__8])), (aBuf, .inl (cC, 60, .inl buf)), (aTold, .inl (cI, 240, .inl told__9))] → va_S A s.heap H locs → lv_has ls 3 [(0, .ref aM), (1, .int r_1), (2, .int w2_6)] → W p l e ({ frames := 3, cells := 0, slots := 0, locals := 67 } : Room) s m ([.ref aM] : List Value).toArray below meth c H locs 0 0 Q (F0 m 106 ls [])) (by
      intro spot__7 wrong__8 told__9 hq H locs ls hP hD hS hl
      refine lv_iload_n hx hb dX6_readWork_106 rfl (lv_at hl 1 rfl) ?_
      refine lv_bipush (v := 73) hx hb dX6_readWork_107 (by decide) ?_
      have hq := hq (fun (spot__10 : Int32) (wrong__11 : Int32) (told__12 : Nat → Int32) => ∀ (H : Heap) (locs : List Loc) (ls : Array Slot), va_P (dC, dI) vwCl [(aM, .inr (5, [.ref aZ, .ref aPast, .int pastMany, .ref aKz, .int isKept, .ref aBuf, .int typed, .ref aStk, .ref aLaid, .int wid, .int hei, .ref aPcs, .ref aTold, .int toldMany, .int spot__10, .int wrong__11])), (aBuf, .inl (cC, 60, .inl buf)), (aTold, .inl (cI, 240, .inl told__12))] H → va_D A [(aM, .inr (5, [.ref aZ, .ref aPast, .int pastMany, .ref aKz, .int isKept, .ref aBuf, .int typed, .ref aStk, .ref aLaid, .int wid, .int hei, .ref aPcs, .ref aTold, .int toldMany, .int spot__10, .int wrong__11])), (aBuf, .inl (cC, 60, .inl buf)), (aTold, .inl (cI, 240, .inl told__12))] → va_S A s.heap H locs → lv_has ls 3 [(0, .ref aM), (1, .int r_1), (2, .int w2_6)] → W p l e ({ frames := 3, cells := 0, slots := 0, locals := 67 } : Room) s m ([.ref aM] : List Value).toArray below meth c H locs 0 0 Q (F0 m 126 ls [])) (by
        intro spot__10 wrong__11 told__12 hq H locs ls hP hD hS hl
        refine lv_iload_n hx hb dX6_readWork_126 rfl (lv_at hl 1 rfl) ?_
        refine lv_bipush (v := 80) hx hb dX6_readWork_127 (by decide) ?_
        have hq := hq (fun (spot__13 : Int32) (wrong__14 : Int32) (told__15 : Nat → Int32) => ∀ (H : Heap) (locs : List Loc) (ls : Array Slot), va_P (dC, dI) vwCl [(aM, .inr (5, [.ref aZ, .ref aPast, .int pastMany, .ref aKz, .int isKept, .ref aBuf, .int typed, .ref aStk, .ref aLaid, .int wid, .int hei, .ref aPcs, .ref aTold, .int toldMany, .int spot__13, .int wrong__14])), (aBuf, .inl (cC, 60, .inl buf)), (aTold, .inl (cI, 240, .inl told__15))] H → va_D A [(aM, .inr (5, [.ref aZ, .ref aPast, .int pastMany, .ref aKz, .int isKept, .ref aBuf, .int typed, .ref aStk, .ref aLaid, .int wid, .int hei, .ref aPcs, .ref aTold, .int toldMany, .int spot__13, .int wrong__14])), (aBuf, .inl (cC, 60, .inl buf)), (aTold, .inl (cI, 240, .inl told__15))] → va_S A s.heap H locs → lv_has ls 3 [(0, .ref aM)] → W p l e ({ frames := 3, cells := 0, slots := 0, locals := 67 } : Room) s m ([.ref aM] : List Value).toArray below meth c H locs 0 0 Q (F0 m 172 ls [])) (by
          intro spot__13 wrong__14 told__15 hq H locs ls hP hD hS hl
          refine lv_aload_n hx hb dX6_readWork_172 rfl (lv_at hl 0 rfl) ?_
          refine lv_dup hx hb dX6_readWork_173 rfl ?_
          refine va_get (D := (dC, dI)) (ci := 5) (v := .int toldMany) (C := RX6) (T := TX6) (N := 16) hx hb hts iwX6_readWork_X6 hown hK hP 0 rfl rfl 13 (by decide) (hts _ kwX6_readWork_163) (fun _ h9 => h9) rfl dX6_readWork_174 ?_
          refine lv_iconst (v := 1) hx hb dX6_readWork_177 (by decide) ?_
          refine lv_iadd hx hb dX6_readWork_178 ?_
          refine va_put (D := (dC, dI)) (ci := 5) (v := .int (toldMany + (1 : Int32))) (ty := .int) (C := RX6) (T := TX6) (N := 16) hx hb hts iwX6_readWork_X6 tyX6 tyX6_ok nmX6 hown hK hP hD hS 0 rfl rfl 13 (by decide) (hts _ kwX6_readWork_163) (fun _ h9 => h9) rfl (by decide +kernel) rfl rfl (Nat.le_of_ble_eq_true rfl) dX6_readWork_179 (fun H locs hP hD hS => ?_)
          have hP : va_P (dC, dI) vwCl [(aM, .inr (5, [.ref aZ, .ref aPast, .int pastMany, .ref aKz, .int isKept, .ref aBuf, .int typed, .ref aStk, .ref aLaid, .int wid, .int hei, .ref aPcs, .ref aTold, .int (toldMany + (1 : Int32)), .int spot__13, .int wrong__14])), (aBuf, .inl (cC, 60, .inl buf)), (aTold, .inl (cI, 240, .inl told__15))] H := hP
          have hD : va_D A [(aM, .inr (5, [.ref aZ, .ref aPast, .int pastMany, .ref aKz, .int isKept, .ref aBuf, .int typed, .ref aStk, .ref aLaid, .int wid, .int hei, .ref aPcs, .ref aTold, .int (toldMany + (1 : Int32)), .int spot__13, .int wrong__14])), (aBuf, .inl (cC, 60, .inl buf)), (aTold, .inl (cI, 240, .inl told__15))] := hD
          exact hret _ _ _ _ _ _ _ _ dX6_readWork_182 hP hD hS hq)
        refine lv_icmp_ne (tgt := 172) hx hb dX6_readWork_129 (by decide) (fun hc => ?_) (fun hc => ?_)
        · have hq := hq.1 hc
          exact hq _ _ _ hP hD hS (lv_sub hl [0] rfl)
        · have hq := hq.2 hc
          refine lv_aload_n hx hb dX6_readWork_132 rfl (lv_at hl 0 rfl) ?_
          refine va_get (D := (dC, dI)) (ci := 5) (v := .int wrong__11) (C := RX6) (T := TX6) (N := 16) hx hb hts iwX6_readWork_X6 hown hK hP 0 rfl rfl 15 (by decide) (hts _ kwX6_readWork_147) (fun _ h9 => h9) rfl dX6_readWork_133 ?_
          refine lv_bipush (v := -6) hx hb dX6_readWork_136 (by decide) ?_
          refine lv_icmp_ne (tgt := 172) hx hb dX6_readWork_138 (by decide) (fun hc => ?_) (fun hc => ?_)
          · have hq := hq.1 hc
            exact hq _ _ _ hP hD hS (lv_sub hl [0] rfl)
          · have hq := hq.2 hc
            refine lv_aload_n hx hb dX6_readWork_141 rfl (lv_at hl 0 rfl) ?_
            have hPc := hP.sub (ws' := [(aM, .inr (5, [.ref aZ, .ref aPast, .int pastMany, .ref aKz, .int isKept, .ref aBuf, .int typed, .ref aStk, .ref aLaid, .int wid, .int hei, .ref aPcs, .ref aTold, .int toldMany, .int spot__10, .int wrong__11])), (aBuf, .inl (cC, 60, .inl buf))]) [0, 1] rfl
            have hDc := hD.sub (ws' := [(aM, .inr (5, [.ref aZ, .ref aPast, .int pastMany, .ref aKz, .int isKept, .ref aBuf, .int typed, .ref aStk, .ref aLaid, .int wid, .int hei, .ref aPcs, .ref aTold, .int toldMany, .int spot__10, .int wrong__11])), (aBuf, .inl (cC, 60, .inl buf))]) [0, 1] (by decide) rfl
            have hFc := va_free (wc := [(aM, .inr (5, [.ref aZ, .ref aPast, .int pastMany, .ref aKz, .int isKept, .ref aBuf, .int typed, .ref aStk, .ref aLaid, .int wid, .int hei, .ref aPcs, .ref aTold, .int toldMany, .int spot__10, .int wrong__11])), (aBuf, .inl (cC, 60, .inl buf))]) hD hS hA [0, 1] rfl
            refine va_calli (va_runV (As := []) (rest := []) ⟨hx, hb, hml, hown, hts⟩ (c_X6_letter l dC dI cI cC cS aM aZ aPast aKz aBuf aStk aLaid aPcs aTold _ pastMany isKept typed wid hei toldMany spot__10 wrong__11 buf hq) (cwV 0 hts gX6_readWork_X6_letter rfl rfl rfl (by decide +kernel) ⟨Nat.le_of_ble_eq_true rfl, Nat.le_of_ble_eq_true rfl⟩) (gn_preV hPc hK hN hDc (ci := 5) (q0 := 0) rfl rfl) rfl rfl hl.1 rfl (lv_room (Nat.le_of_ble_eq_true rfl)) dX6_readWork_142 ⟨Nat.zero_le _, Nat.zero_le _⟩) hS (fun q _ h => hFc q h) hFc (fun r_16 u t H1 locs ht hvm hq hB hz1 hk1 hS => ?_)
            obtain ⟨hP1, hK1, hD1⟩ := hB
            rw [ht] at hP1
            try dsimp only at hq
            obtain ⟨hP, hD⟩ := va_join (wr := [(aTold, .inl (cI, 240, .inl told__12))]) (w1 := [(aM, .inr (5, [.ref aZ, .ref aPast, .int pastMany, .ref aKz, .int isKept, .ref aBuf, .int typed, .ref aStk, .ref aLaid, .int wid, .int hei, .ref aPcs, .ref aTold, .int toldMany, .int spot__10, .int wrong__11])), (aBuf, .inl (cC, 60, .inl buf))]) hP hD [0, 1] [2] rfl rfl (by decide) (by decide) hk1 hFc hP1 hD1
            have hP := hP.sub (ws' := [(aM, .inr (5, [.ref aZ, .ref aPast, .int pastMany, .ref aKz, .int isKept, .ref aBuf, .int typed, .ref aStk, .ref aLaid, .int wid, .int hei, .ref aPcs, .ref aTold, .int toldMany, .int spot__10, .int wrong__11])), (aBuf, .inl (cC, 60, .inl buf)), (aTold, .inl (cI, 240, .inl told__12))]) [1, 2, 0] rfl
            have hD := hD.sub (ws' := [(aM, .inr (5, [.ref aZ, .ref aPast, .int pastMany, .ref aKz, .int isKept, .ref aBuf, .int typed, .ref aStk, .ref aLaid, .int wid, .int hei, .ref aPcs, .ref aTold, .int toldMany, .int spot__10, .int wrong__11])), (aBuf, .inl (cC, 60, .inl buf)), (aTold, .inl (cI, 240, .inl told__12))]) [1, 2, 0] (by decide) rfl
            generalize H1 = H at hP hS ⊢
            refine lv_bipush (v := 58) hx hb dX6_readWork_145 (by decide) ?_
            refine lv_icmp_ne (tgt := 172) hx hb dX6_readWork_147 (by decide) (fun hc => ?_) (fun hc => ?_)
            · have hq := hq.1 hc
              exact hq _ _ _ hP hD hS (lv_sub hl [0] rfl)
            · have hq := hq.2 hc
              refine lv_aload_n hx hb dX6_readWork_150 rfl (lv_at hl 0 rfl) ?_
              refine lv_dup hx hb dX6_readWork_151 rfl ?_
              refine va_get (D := (dC, dI)) (ci := 5) (v := .int spot__10) (C := RX6) (T := TX6) (N := 16) hx hb hts iwX6_readWork_X6 hown hK hP 0 rfl rfl 14 (by decide) (hts _ kwX6_readWork_144) (fun _ h9 => h9) rfl dX6_readWork_152 ?_
              refine lv_iconst (v := 1) hx hb dX6_readWork_155 (by decide) ?_
              refine lv_iadd hx hb dX6_readWork_156 ?_
              refine va_put (D := (dC, dI)) (ci := 5) (v := .int (spot__10 + (1 : Int32))) (ty := .int) (C := RX6) (T := TX6) (N := 16) hx hb hts iwX6_readWork_X6 tyX6 tyX6_ok nmX6 hown hK hP hD hS 0 rfl rfl 14 (by decide) (hts _ kwX6_readWork_144) (fun _ h9 => h9) rfl (by decide +kernel) rfl rfl (Nat.le_of_ble_eq_true rfl) dX6_readWork_157 (fun H locs hP hD hS => ?_)
              have hP : va_P (dC, dI) vwCl [(aM, .inr (5, [.ref aZ, .ref aPast, .int pastMany, .ref aKz, .int isKept, .ref aBuf, .int typed, .ref aStk, .ref aLaid, .int wid, .int hei, .ref aPcs, .ref aTold, .int toldMany, .int (spot__10 + (1 : Int32)), .int wrong__11])), (aBuf, .inl (cC, 60, .inl buf)), (aTold, .inl (cI, 240, .inl told__12))] H := hP
              have hD : va_D A [(aM, .inr (5, [.ref aZ, .ref aPast, .int pastMany, .ref aKz, .int isKept, .ref aBuf, .int typed, .ref aStk, .ref aLaid, .int wid, .int hei, .ref aPcs, .ref aTold, .int toldMany, .int (spot__10 + (1 : Int32)), .int wrong__11])), (aBuf, .inl (cC, 60, .inl buf)), (aTold, .inl (cI, 240, .inl told__12))] := hD
              refine lv_aload_n hx hb dX6_readWork_160 rfl (lv_at hl 0 rfl) ?_
              refine va_get (D := (dC, dI)) (ci := 5) (v := .ref aTold) (C := RX6) (T := TX6) (N := 16) hx hb hts iwX6_readWork_X6 hown hK hP 0 rfl rfl 12 (by decide) (hts _ kwX6_readWork_32) (fun _ h9 => h9) rfl dX6_readWork_161 ?_
              refine lv_iload_n hx hb dX6_readWork_164 rfl (lv_at hl 2 rfl) ?_
              refine lv_iconst (v := 3) hx hb dX6_readWork_165 (by decide) ?_
              refine lv_iadd hx hb dX6_readWork_166 ?_
              refine lv_aload_n hx hb dX6_readWork_167 rfl (lv_at hl 0 rfl) ?_
              have hPc := hP.sub (ws' := [(aM, .inr (5, [.ref aZ, .ref aPast, .int pastMany, .ref aKz, .int isKept, .ref aBuf, .int typed, .ref aStk, .ref aLaid, .int wid, .int hei, .ref aPcs, .ref aTold, .int toldMany, .int (spot__10 + (1 : Int32)), .int wrong__11])), (aBuf, .inl (cC, 60, .inl buf))]) [0, 1] rfl
              have hDc := hD.sub (ws' := [(aM, .inr (5, [.ref aZ, .ref aPast, .int pastMany, .ref aKz, .int isKept, .ref aBuf, .int typed, .ref aStk, .ref aLaid, .int wid, .int hei, .ref aPcs, .ref aTold, .int toldMany, .int (spot__10 + (1 : Int32)), .int wrong__11])), (aBuf, .inl (cC, 60, .inl buf))]) [0, 1] (by decide) rfl
              have hFc := va_free (wc := [(aM, .inr (5, [.ref aZ, .ref aPast, .int pastMany, .ref aKz, .int isKept, .ref aBuf, .int typed, .ref aStk, .ref aLaid, .int wid, .int hei, .ref aPcs, .ref aTold, .int toldMany, .int (spot__10 + (1 : Int32)), .int wrong__11])), (aBuf, .inl (cC, 60, .inl buf))]) hD hS hA [0, 1] rfl
              refine va_calli (va_runV (As := []) (rest := [.int (w2_6 + (3 : Int32)), .ref aTold]) ⟨hx, hb, hml, hown, hts⟩ (c_X6_depth l dC dI cI cC cS aM aZ aPast aKz aBuf aStk aLaid aPcs aTold _ pastMany isKept typed wid hei toldMany (spot__10 + (1 : Int32)) wrong__11 buf hq) (cwV 0 hts gX6_readWork_X6_depth rfl rfl rfl (by decide +kernel) ⟨Nat.le_of_ble_eq_true rfl, Nat.le_of_ble_eq_true rfl⟩) (gn_preV hPc hK hN hDc (ci := 5) (q0 := 0) rfl rfl) rfl rfl hl.1 rfl (lv_room (Nat.le_of_ble_eq_true rfl)) dX6_readWork_168 ⟨Nat.zero_le _, Nat.zero_le _⟩) hS (fun q _ h => hFc q h) hFc (fun r_17 u t H1 locs ht hvm hq hB hz1 hk1 hS => ?_)
              obtain ⟨spot__18, wrong__19⟩ := u
              obtain ⟨hP1, hK1, hD1⟩ := hB
              rw [ht] at hP1
              try dsimp only at hq
              obtain ⟨hP, hD⟩ := va_join (wr := [(aTold, .inl (cI, 240, .inl told__12))]) (w1 := [(aM, .inr (5, [.ref aZ, .ref aPast, .int pastMany, .ref aKz, .int isKept, .ref aBuf, .int typed, .ref aStk, .ref aLaid, .int wid, .int hei, .ref aPcs, .ref aTold, .int toldMany, .int spot__18, .int wrong__19])), (aBuf, .inl (cC, 60, .inl buf))]) hP hD [0, 1] [2] rfl rfl (by decide) (by decide) hk1 hFc hP1 hD1
              have hP := hP.sub (ws' := [(aM, .inr (5, [.ref aZ, .ref aPast, .int pastMany, .ref aKz, .int isKept, .ref aBuf, .int typed, .ref aStk, .ref aLaid, .int wid, .int hei, .ref aPcs, .ref aTold, .int toldMany, .int spot__18, .int wrong__19])), (aBuf, .inl (cC, 60, .inl buf)), (aTold, .inl (cI, 240, .inl told__12))]) [1, 2, 0] rfl
              have hD := hD.sub (ws' := [(aM, .inr (5, [.ref aZ, .ref aPast, .int pastMany, .ref aKz, .int isKept, .ref aBuf, .int typed, .ref aStk, .ref aLaid, .int wid, .int hei, .ref aPcs, .ref aTold, .int toldMany, .int spot__18, .int wrong__19])), (aBuf, .inl (cC, 60, .inl buf)), (aTold, .inl (cI, 240, .inl told__12))]) [1, 2, 0] (by decide) rfl
              generalize H1 = H at hP hS ⊢
              have hin := hq.1
              have hq := hq.2
              refine va_iast hx hb hK hP hD hS 2 0 rfl rfl hin dX6_readWork_171 (fun H locs hP hD hS => ?_)
              have hP : va_P (dC, dI) vwCl [(aM, .inr (5, [.ref aZ, .ref aPast, .int pastMany, .ref aKz, .int isKept, .ref aBuf, .int typed, .ref aStk, .ref aLaid, .int wid, .int hei, .ref aPcs, .ref aTold, .int toldMany, .int spot__18, .int wrong__19])), (aBuf, .inl (cC, 60, .inl buf)), (aTold, .inl (cI, 240, .inl (upd told__12 ((w2_6 + (3 : Int32))).toNatClampNeg r_17)))] H := hP
              have hD : va_D A [(aM, .inr (5, [.ref aZ, .ref aPast, .int pastMany, .ref aKz, .int isKept, .ref aBuf, .int typed, .ref aStk, .ref aLaid, .int wid, .int hei, .ref aPcs, .ref aTold, .int toldMany, .int spot__18, .int wrong__19])), (aBuf, .inl (cC, 60, .inl buf)), (aTold, .inl (cI, 240, .inl (upd told__12 ((w2_6 + (3 : Int32))).toNatClampNeg r_17)))] := hD
              exact hq _ _ _ hP hD hS (lv_sub hl [0] rfl))
      refine lv_icmp_ne (tgt := 126) hx hb dX6_readWork_109 (by decide) (fun hc => ?_) (fun hc => ?_)
      · have hq := hq.1 hc
        exact hq _ _ _ hP hD hS (lv_sub hl [0, 1, 2] rfl)
      · have hq := hq.2 hc
        refine lv_aload_n hx hb dX6_readWork_112 rfl (lv_at hl 0 rfl) ?_
        refine va_get (D := (dC, dI)) (ci := 5) (v := .ref aTold) (C := RX6) (T := TX6) (N := 16) hx hb hts iwX6_readWork_X6 hown hK hP 0 rfl rfl 12 (by decide) (hts _ kwX6_readWork_32) (fun _ h9 => h9) rfl dX6_readWork_113 ?_
        refine lv_iload_n hx hb dX6_readWork_116 rfl (lv_at hl 2 rfl) ?_
        refine lv_iconst (v := 3) hx hb dX6_readWork_117 (by decide) ?_
        refine lv_iadd hx hb dX6_readWork_118 ?_
        refine lv_aload_n hx hb dX6_readWork_119 rfl (lv_at hl 0 rfl) ?_
        refine lv_iconst (v := 1) hx hb dX6_readWork_120 (by decide) ?_
        refine lv_iconst (v := 5) hx hb dX6_readWork_121 (by decide) ?_
        have hPc := hP.sub (ws' := [(aM, .inr (5, [.ref aZ, .ref aPast, .int pastMany, .ref aKz, .int isKept, .ref aBuf, .int typed, .ref aStk, .ref aLaid, .int wid, .int hei, .ref aPcs, .ref aTold, .int toldMany, .int spot__7, .int wrong__8])), (aBuf, .inl (cC, 60, .inl buf))]) [0, 1] rfl
        have hDc := hD.sub (ws' := [(aM, .inr (5, [.ref aZ, .ref aPast, .int pastMany, .ref aKz, .int isKept, .ref aBuf, .int typed, .ref aStk, .ref aLaid, .int wid, .int hei, .ref aPcs, .ref aTold, .int toldMany, .int spot__7, .int wrong__8])), (aBuf, .inl (cC, 60, .inl buf))]) [0, 1] (by decide) rfl
        have hFc := va_free (wc := [(aM, .inr (5, [.ref aZ, .ref aPast, .int pastMany, .ref aKz, .int isKept, .ref aBuf, .int typed, .ref aStk, .ref aLaid, .int wid, .int hei, .ref aPcs, .ref aTold, .int toldMany, .int spot__7, .int wrong__8])), (aBuf, .inl (cC, 60, .inl buf))]) hD hS hA [0, 1] rfl
        refine va_calli (va_runV (As := [.int (1 : Int32), .int (5 : Int32)]) (rest := [.int (w2_6 + (3 : Int32)), .ref aTold]) ⟨hx, hb, hml, hown, hts⟩ (c_X6_figure l dC dI cI cC cS aM aZ aPast aKz aBuf aStk aLaid aPcs aTold _ pastMany isKept typed wid hei toldMany spot__7 wrong__8 buf (1 : Int32) (5 : Int32) hq) (cwV 2 hts gX6_readWork_X6_figure rfl rfl rfl (by decide +kernel) ⟨Nat.le_of_ble_eq_true rfl, Nat.le_of_ble_eq_true rfl⟩) (gn_preV hPc hK hN hDc (ci := 5) (q0 := 0) rfl rfl) rfl rfl hl.1 rfl (lv_room (Nat.le_of_ble_eq_true rfl)) dX6_readWork_122 ⟨Nat.zero_le _, Nat.zero_le _⟩) hS (fun q _ h => hFc q h) hFc (fun r_20 u t H1 locs ht hvm hq hB hz1 hk1 hS => ?_)
        obtain ⟨spot__21, wrong__22⟩ := u
        obtain ⟨hP1, hK1, hD1⟩ := hB
        rw [ht] at hP1
        try dsimp only at hq
        obtain ⟨hP, hD⟩ := va_join (wr := [(aTold, .inl (cI, 240, .inl told__9))]) (w1 := [(aM, .inr (5, [.ref aZ, .ref aPast, .int pastMany, .ref aKz, .int isKept, .ref aBuf, .int typed, .ref aStk, .ref aLaid, .int wid, .int hei, .ref aPcs, .ref aTold, .int toldMany, .int spot__21, .int wrong__22])), (aBuf, .inl (cC, 60, .inl buf))]) hP hD [0, 1] [2] rfl rfl (by decide) (by decide) hk1 hFc hP1 hD1
        have hP := hP.sub (ws' := [(aM, .inr (5, [.ref aZ, .ref aPast, .int pastMany, .ref aKz, .int isKept, .ref aBuf, .int typed, .ref aStk, .ref aLaid, .int wid, .int hei, .ref aPcs, .ref aTold, .int toldMany, .int spot__21, .int wrong__22])), (aBuf, .inl (cC, 60, .inl buf)), (aTold, .inl (cI, 240, .inl told__9))]) [1, 2, 0] rfl
        have hD := hD.sub (ws' := [(aM, .inr (5, [.ref aZ, .ref aPast, .int pastMany, .ref aKz, .int isKept, .ref aBuf, .int typed, .ref aStk, .ref aLaid, .int wid, .int hei, .ref aPcs, .ref aTold, .int toldMany, .int spot__21, .int wrong__22])), (aBuf, .inl (cC, 60, .inl buf)), (aTold, .inl (cI, 240, .inl told__9))]) [1, 2, 0] (by decide) rfl
        generalize H1 = H at hP hS ⊢
        have hin := hq.1
        have hq := hq.2
        refine va_iast hx hb hK hP hD hS 2 0 rfl rfl hin dX6_readWork_125 (fun H locs hP hD hS => ?_)
        have hP : va_P (dC, dI) vwCl [(aM, .inr (5, [.ref aZ, .ref aPast, .int pastMany, .ref aKz, .int isKept, .ref aBuf, .int typed, .ref aStk, .ref aLaid, .int wid, .int hei, .ref aPcs, .ref aTold, .int toldMany, .int spot__21, .int wrong__22])), (aBuf, .inl (cC, 60, .inl buf)), (aTold, .inl (cI, 240, .inl (upd told__9 ((w2_6 + (3 : Int32))).toNatClampNeg r_20)))] H := hP
        have hD : va_D A [(aM, .inr (5, [.ref aZ, .ref aPast, .int pastMany, .ref aKz, .int isKept, .ref aBuf, .int typed, .ref aStk, .ref aLaid, .int wid, .int hei, .ref aPcs, .ref aTold, .int toldMany, .int spot__21, .int wrong__22])), (aBuf, .inl (cC, 60, .inl buf)), (aTold, .inl (cI, 240, .inl (upd told__9 ((w2_6 + (3 : Int32))).toNatClampNeg r_20)))] := hD
        exact hq _ _ _ hP hD hS (lv_sub hl [0, 1, 2] rfl))
    have hq := hq (∀ (H : Heap) (locs : List Loc) (ls : Array Slot), va_P (dC, dI) vwCl [(aM, .inr (5, [.ref aZ, .ref aPast, .int pastMany, .ref aKz, .int isKept, .ref aBuf, .int typed, .ref aStk, .ref aLaid, .int wid, .int hei, .ref aPcs, .ref aTold, .int toldMany, .int spot__4, .int wrong__5])), (aBuf, .inl (cC, 60, .inl buf)), (aTold, .inl (cI, 240, .inl (upd (upd told (w2_6).toNatClampNeg r_1) ((w2_6 + (3 : Int32))).toNatClampNeg (0 : Int32))))] H → va_D A [(aM, .inr (5, [.ref aZ, .ref aPast, .int pastMany, .ref aKz, .int isKept, .ref aBuf, .int typed, .ref aStk, .ref aLaid, .int wid, .int hei, .ref aPcs, .ref aTold, .int toldMany, .int spot__4, .int wrong__5])), (aBuf, .inl (cC, 60, .inl buf)), (aTold, .inl (cI, 240, .inl (upd (upd told (w2_6).toNatClampNeg r_1) ((w2_6 + (3 : Int32))).toNatClampNeg (0 : Int32))))] → va_S A s.heap H locs → lv_has ls 3 [(0, .ref aM), (1, .int r_1), (2, .int w2_6)] → W p l e ({ frames := 3, cells := 0, slots := 0, locals := 67 } : Room) s m ([.ref aM] : List Value).toArray below meth c H locs 0 0 Q (F0 m 76 ls [])) (by
      intro  hq H locs ls hP hD hS hl
      refine lv_aload_n hx hb dX6_readWork_76 rfl (lv_at hl 0 rfl) ?_
      refine va_get (D := (dC, dI)) (ci := 5) (v := .ref aTold) (C := RX6) (T := TX6) (N := 16) hx hb hts iwX6_readWork_X6 hown hK hP 0 rfl rfl 12 (by decide) (hts _ kwX6_readWork_32) (fun _ h9 => h9) rfl dX6_readWork_77 ?_
      refine lv_iload_n hx hb dX6_readWork_80 rfl (lv_at hl 2 rfl) ?_
      refine lv_iconst (v := 1) hx hb dX6_readWork_81 (by decide) ?_
      refine lv_iadd hx hb dX6_readWork_82 ?_
      refine lv_aload_n hx hb dX6_readWork_83 rfl (lv_at hl 0 rfl) ?_
      refine lv_iconst (v := 0) hx hb dX6_readWork_84 (by decide) ?_
      refine lv_bipush (v := 7) hx hb dX6_readWork_85 (by decide) ?_
      have hPc := hP.sub (ws' := [(aM, .inr (5, [.ref aZ, .ref aPast, .int pastMany, .ref aKz, .int isKept, .ref aBuf, .int typed, .ref aStk, .ref aLaid, .int wid, .int hei, .ref aPcs, .ref aTold, .int toldMany, .int spot__4, .int wrong__5])), (aBuf, .inl (cC, 60, .inl buf))]) [0, 1] rfl
      have hDc := hD.sub (ws' := [(aM, .inr (5, [.ref aZ, .ref aPast, .int pastMany, .ref aKz, .int isKept, .ref aBuf, .int typed, .ref aStk, .ref aLaid, .int wid, .int hei, .ref aPcs, .ref aTold, .int toldMany, .int spot__4, .int wrong__5])), (aBuf, .inl (cC, 60, .inl buf))]) [0, 1] (by decide) rfl
      have hFc := va_free (wc := [(aM, .inr (5, [.ref aZ, .ref aPast, .int pastMany, .ref aKz, .int isKept, .ref aBuf, .int typed, .ref aStk, .ref aLaid, .int wid, .int hei, .ref aPcs, .ref aTold, .int toldMany, .int spot__4, .int wrong__5])), (aBuf, .inl (cC, 60, .inl buf))]) hD hS hA [0, 1] rfl
      refine va_calli (va_runV (As := [.int (0 : Int32), .int (7 : Int32)]) (rest := [.int (w2_6 + (1 : Int32)), .ref aTold]) ⟨hx, hb, hml, hown, hts⟩ (c_X6_figure l dC dI cI cC cS aM aZ aPast aKz aBuf aStk aLaid aPcs aTold _ pastMany isKept typed wid hei toldMany spot__4 wrong__5 buf (0 : Int32) (7 : Int32) hq) (cwV 2 hts gX6_readWork_X6_figure rfl rfl rfl (by decide +kernel) ⟨Nat.le_of_ble_eq_true rfl, Nat.le_of_ble_eq_true rfl⟩) (gn_preV hPc hK hN hDc (ci := 5) (q0 := 0) rfl rfl) rfl rfl hl.1 rfl (lv_room (Nat.le_of_ble_eq_true rfl)) dX6_readWork_87 ⟨Nat.zero_le _, Nat.zero_le _⟩) hS (fun q _ h => hFc q h) hFc (fun r_23 u t H1 locs ht hvm hq hB hz1 hk1 hS => ?_)
      obtain ⟨spot__24, wrong__25⟩ := u
      obtain ⟨hP1, hK1, hD1⟩ := hB
      rw [ht] at hP1
      try dsimp only at hq
      obtain ⟨hP, hD⟩ := va_join (wr := [(aTold, .inl (cI, 240, .inl (upd (upd told (w2_6).toNatClampNeg r_1) ((w2_6 + (3 : Int32))).toNatClampNeg (0 : Int32))))]) (w1 := [(aM, .inr (5, [.ref aZ, .ref aPast, .int pastMany, .ref aKz, .int isKept, .ref aBuf, .int typed, .ref aStk, .ref aLaid, .int wid, .int hei, .ref aPcs, .ref aTold, .int toldMany, .int spot__24, .int wrong__25])), (aBuf, .inl (cC, 60, .inl buf))]) hP hD [0, 1] [2] rfl rfl (by decide) (by decide) hk1 hFc hP1 hD1
      have hP := hP.sub (ws' := [(aM, .inr (5, [.ref aZ, .ref aPast, .int pastMany, .ref aKz, .int isKept, .ref aBuf, .int typed, .ref aStk, .ref aLaid, .int wid, .int hei, .ref aPcs, .ref aTold, .int toldMany, .int spot__24, .int wrong__25])), (aBuf, .inl (cC, 60, .inl buf)), (aTold, .inl (cI, 240, .inl (upd (upd told (w2_6).toNatClampNeg r_1) ((w2_6 + (3 : Int32))).toNatClampNeg (0 : Int32))))]) [1, 2, 0] rfl
      have hD := hD.sub (ws' := [(aM, .inr (5, [.ref aZ, .ref aPast, .int pastMany, .ref aKz, .int isKept, .ref aBuf, .int typed, .ref aStk, .ref aLaid, .int wid, .int hei, .ref aPcs, .ref aTold, .int toldMany, .int spot__24, .int wrong__25])), (aBuf, .inl (cC, 60, .inl buf)), (aTold, .inl (cI, 240, .inl (upd (upd told (w2_6).toNatClampNeg r_1) ((w2_6 + (3 : Int32))).toNatClampNeg (0 : Int32))))]) [1, 2, 0] (by decide) rfl
      generalize H1 = H at hP hS ⊢
      have hin := hq.1
      have hq := hq.2
      refine va_iast hx hb hK hP hD hS 2 0 rfl rfl hin dX6_readWork_90 (fun H locs hP hD hS => ?_)
      have hP : va_P (dC, dI) vwCl [(aM, .inr (5, [.ref aZ, .ref aPast, .int pastMany, .ref aKz, .int isKept, .ref aBuf, .int typed, .ref aStk, .ref aLaid, .int wid, .int hei, .ref aPcs, .ref aTold, .int toldMany, .int spot__24, .int wrong__25])), (aBuf, .inl (cC, 60, .inl buf)), (aTold, .inl (cI, 240, .inl (upd (upd (upd told (w2_6).toNatClampNeg r_1) ((w2_6 + (3 : Int32))).toNatClampNeg (0 : Int32)) ((w2_6 + (1 : Int32))).toNatClampNeg r_23)))] H := hP
      have hD : va_D A [(aM, .inr (5, [.ref aZ, .ref aPast, .int pastMany, .ref aKz, .int isKept, .ref aBuf, .int typed, .ref aStk, .ref aLaid, .int wid, .int hei, .ref aPcs, .ref aTold, .int toldMany, .int spot__24, .int wrong__25])), (aBuf, .inl (cC, 60, .inl buf)), (aTold, .inl (cI, 240, .inl (upd (upd (upd told (w2_6).toNatClampNeg r_1) ((w2_6 + (3 : Int32))).toNatClampNeg (0 : Int32)) ((w2_6 + (1 : Int32))).toNatClampNeg r_23)))] := hD
      refine lv_aload_n hx hb dX6_readWork_91 rfl (lv_at hl 0 rfl) ?_
      refine va_get (D := (dC, dI)) (ci := 5) (v := .ref aTold) (C := RX6) (T := TX6) (N := 16) hx hb hts iwX6_readWork_X6 hown hK hP 0 rfl rfl 12 (by decide) (hts _ kwX6_readWork_32) (fun _ h9 => h9) rfl dX6_readWork_92 ?_
      refine lv_iload_n hx hb dX6_readWork_95 rfl (lv_at hl 2 rfl) ?_
      refine lv_iconst (v := 2) hx hb dX6_readWork_96 (by decide) ?_
      refine lv_iadd hx hb dX6_readWork_97 ?_
      refine lv_aload_n hx hb dX6_readWork_98 rfl (lv_at hl 0 rfl) ?_
      refine lv_iconst (v := 0) hx hb dX6_readWork_99 (by decide) ?_
      refine lv_bipush (v := 7) hx hb dX6_readWork_100 (by decide) ?_
      have hPc := hP.sub (ws' := [(aM, .inr (5, [.ref aZ, .ref aPast, .int pastMany, .ref aKz, .int isKept, .ref aBuf, .int typed, .ref aStk, .ref aLaid, .int wid, .int hei, .ref aPcs, .ref aTold, .int toldMany, .int spot__24, .int wrong__25])), (aBuf, .inl (cC, 60, .inl buf))]) [0, 1] rfl
      have hDc := hD.sub (ws' := [(aM, .inr (5, [.ref aZ, .ref aPast, .int pastMany, .ref aKz, .int isKept, .ref aBuf, .int typed, .ref aStk, .ref aLaid, .int wid, .int hei, .ref aPcs, .ref aTold, .int toldMany, .int spot__24, .int wrong__25])), (aBuf, .inl (cC, 60, .inl buf))]) [0, 1] (by decide) rfl
      have hFc := va_free (wc := [(aM, .inr (5, [.ref aZ, .ref aPast, .int pastMany, .ref aKz, .int isKept, .ref aBuf, .int typed, .ref aStk, .ref aLaid, .int wid, .int hei, .ref aPcs, .ref aTold, .int toldMany, .int spot__24, .int wrong__25])), (aBuf, .inl (cC, 60, .inl buf))]) hD hS hA [0, 1] rfl
      refine va_calli (va_runV (As := [.int (0 : Int32), .int (7 : Int32)]) (rest := [.int (w2_6 + (2 : Int32)), .ref aTold]) ⟨hx, hb, hml, hown, hts⟩ (c_X6_figure l dC dI cI cC cS aM aZ aPast aKz aBuf aStk aLaid aPcs aTold _ pastMany isKept typed wid hei toldMany spot__24 wrong__25 buf (0 : Int32) (7 : Int32) hq) (cwV 2 hts gX6_readWork_X6_figure rfl rfl rfl (by decide +kernel) ⟨Nat.le_of_ble_eq_true rfl, Nat.le_of_ble_eq_true rfl⟩) (gn_preV hPc hK hN hDc (ci := 5) (q0 := 0) rfl rfl) rfl rfl hl.1 rfl (lv_room (Nat.le_of_ble_eq_true rfl)) dX6_readWork_102 ⟨Nat.zero_le _, Nat.zero_le _⟩) hS (fun q _ h => hFc q h) hFc (fun r_26 u t H1 locs ht hvm hq hB hz1 hk1 hS => ?_)
      obtain ⟨spot__27, wrong__28⟩ := u
      obtain ⟨hP1, hK1, hD1⟩ := hB
      rw [ht] at hP1
      try dsimp only at hq
      obtain ⟨hP, hD⟩ := va_join (wr := [(aTold, .inl (cI, 240, .inl (upd (upd (upd told (w2_6).toNatClampNeg r_1) ((w2_6 + (3 : Int32))).toNatClampNeg (0 : Int32)) ((w2_6 + (1 : Int32))).toNatClampNeg r_23)))]) (w1 := [(aM, .inr (5, [.ref aZ, .ref aPast, .int pastMany, .ref aKz, .int isKept, .ref aBuf, .int typed, .ref aStk, .ref aLaid, .int wid, .int hei, .ref aPcs, .ref aTold, .int toldMany, .int spot__27, .int wrong__28])), (aBuf, .inl (cC, 60, .inl buf))]) hP hD [0, 1] [2] rfl rfl (by decide) (by decide) hk1 hFc hP1 hD1
      have hP := hP.sub (ws' := [(aM, .inr (5, [.ref aZ, .ref aPast, .int pastMany, .ref aKz, .int isKept, .ref aBuf, .int typed, .ref aStk, .ref aLaid, .int wid, .int hei, .ref aPcs, .ref aTold, .int toldMany, .int spot__27, .int wrong__28])), (aBuf, .inl (cC, 60, .inl buf)), (aTold, .inl (cI, 240, .inl (upd (upd (upd told (w2_6).toNatClampNeg r_1) ((w2_6 + (3 : Int32))).toNatClampNeg (0 : Int32)) ((w2_6 + (1 : Int32))).toNatClampNeg r_23)))]) [1, 2, 0] rfl
      have hD := hD.sub (ws' := [(aM, .inr (5, [.ref aZ, .ref aPast, .int pastMany, .ref aKz, .int isKept, .ref aBuf, .int typed, .ref aStk, .ref aLaid, .int wid, .int hei, .ref aPcs, .ref aTold, .int toldMany, .int spot__27, .int wrong__28])), (aBuf, .inl (cC, 60, .inl buf)), (aTold, .inl (cI, 240, .inl (upd (upd (upd told (w2_6).toNatClampNeg r_1) ((w2_6 + (3 : Int32))).toNatClampNeg (0 : Int32)) ((w2_6 + (1 : Int32))).toNatClampNeg r_23)))]) [1, 2, 0] (by decide) rfl
      generalize H1 = H at hP hS ⊢
      have hin := hq.1
      have hq := hq.2
      refine va_iast hx hb hK hP hD hS 2 0 rfl rfl hin dX6_readWork_105 (fun H locs hP hD hS => ?_)
      have hP : va_P (dC, dI) vwCl [(aM, .inr (5, [.ref aZ, .ref aPast, .int pastMany, .ref aKz, .int isKept, .ref aBuf, .int typed, .ref aStk, .ref aLaid, .int wid, .int hei, .ref aPcs, .ref aTold, .int toldMany, .int spot__27, .int wrong__28])), (aBuf, .inl (cC, 60, .inl buf)), (aTold, .inl (cI, 240, .inl (upd (upd (upd (upd told (w2_6).toNatClampNeg r_1) ((w2_6 + (3 : Int32))).toNatClampNeg (0 : Int32)) ((w2_6 + (1 : Int32))).toNatClampNeg r_23) ((w2_6 + (2 : Int32))).toNatClampNeg r_26)))] H := hP
      have hD : va_D A [(aM, .inr (5, [.ref aZ, .ref aPast, .int pastMany, .ref aKz, .int isKept, .ref aBuf, .int typed, .ref aStk, .ref aLaid, .int wid, .int hei, .ref aPcs, .ref aTold, .int toldMany, .int spot__27, .int wrong__28])), (aBuf, .inl (cC, 60, .inl buf)), (aTold, .inl (cI, 240, .inl (upd (upd (upd (upd told (w2_6).toNatClampNeg r_1) ((w2_6 + (3 : Int32))).toNatClampNeg (0 : Int32)) ((w2_6 + (1 : Int32))).toNatClampNeg r_23) ((w2_6 + (2 : Int32))).toNatClampNeg r_26)))] := hD
      exact hq _ _ _ hP hD hS (lv_sub hl [0, 1, 2] rfl))
    refine lv_icmp_eq (tgt := 76) hx hb dX6_readWork_67 (by decide) (fun hc => ?_) (fun hc => ?_)
    · have hq := hq.1 hc
      exact hq _ _ _ hP hD hS (lv_sub hl [1, 2, 0] rfl)
    · have hq := hq.2 hc
      refine lv_iload_n hx hb dX6_readWork_70 rfl (lv_at hl 2 rfl) ?_
      refine lv_bipush (v := 73) hx hb dX6_readWork_71 (by decide) ?_
      refine lv_icmp_ne (tgt := 106) hx hb dX6_readWork_73 (by decide) (fun hc => ?_) (fun hc => ?_)
      · have hq := hq.1 hc
        exact hq _ _ _ hP hD hS (lv_sub hl [1, 2, 0] rfl)
      · have hq := hq.2 hc
        exact hq _ _ _ hP hD hS (lv_sub hl [1, 2, 0] rfl))
  have hq := hq (∀ (H : Heap) (locs : List Loc) (ls : Array Slot), va_P (dC, dI) vwCl [(aM, .inr (5, [.ref aZ, .ref aPast, .int pastMany, .ref aKz, .int isKept, .ref aBuf, .int typed, .ref aStk, .ref aLaid, .int wid, .int hei, .ref aPcs, .ref aTold, .int toldMany, .int spot, .int wrong])), (aBuf, .inl (cC, 60, .inl buf)), (aTold, .inl (cI, 240, .inl told))] H → va_D A [(aM, .inr (5, [.ref aZ, .ref aPast, .int pastMany, .ref aKz, .int isKept, .ref aBuf, .int typed, .ref aStk, .ref aLaid, .int wid, .int hei, .ref aPcs, .ref aTold, .int toldMany, .int spot, .int wrong])), (aBuf, .inl (cC, 60, .inl buf)), (aTold, .inl (cI, 240, .inl told))] → va_S A s.heap H locs → lv_has ls 3 [(0, .ref aM), (1, .int r_1)] → W p l e ({ frames := 3, cells := 0, slots := 0, locals := 67 } : Room) s m ([.ref aM] : List Value).toArray below meth c H locs 0 0 Q (F0 m 33 ls [.ref aM])) (by
    intro  hq H locs ls hP hD hS hl
    refine lv_iconst (v := 1) hx hb dX6_readWork_33 (by decide) ?_
    refine lv_goto (tgt := 38) hx hb dX6_readWork_34 (by decide) ?_
    exact hq _ _ _ hP hD hS (lv_sub hl [0, 1] rfl))
  refine lv_icmp_ne (tgt := 33) hx hb dX6_readWork_12 (by decide) (fun hc => ?_) (fun hc => ?_)
  · have hq := hq.1 hc
    exact hq _ _ _ hP hD hS (lv_sub hl [1, 0] rfl)
  · have hq := hq.2 hc
    refine lv_iload_n hx hb dX6_readWork_15 rfl (lv_at hl 0 rfl) ?_
    refine lv_bipush (v := 85) hx hb dX6_readWork_16 (by decide) ?_
    refine lv_icmp_eq (tgt := 33) hx hb dX6_readWork_18 (by decide) (fun hc => ?_) (fun hc => ?_)
    · have hq := hq.1 hc
      exact hq _ _ _ hP hD hS (lv_sub hl [1, 0] rfl)
    · have hq := hq.2 hc
      refine lv_iload_n hx hb dX6_readWork_21 rfl (lv_at hl 0 rfl) ?_
      refine lv_bipush (v := 80) hx hb dX6_readWork_22 (by decide) ?_
      refine lv_icmp_eq (tgt := 33) hx hb dX6_readWork_24 (by decide) (fun hc => ?_) (fun hc => ?_)
      · have hq := hq.1 hc
        exact hq _ _ _ hP hD hS (lv_sub hl [1, 0] rfl)
      · have hq := hq.2 hc
        refine lv_iload_n hx hb dX6_readWork_27 rfl (lv_at hl 0 rfl) ?_
        refine lv_bipush (v := 73) hx hb dX6_readWork_28 (by decide) ?_
        refine lv_icmp_ne (tgt := 37) hx hb dX6_readWork_30 (by decide) (fun hc => ?_) (fun hc => ?_)
        · have hq := hq.1 hc
          refine lv_iconst (v := 0) hx hb dX6_readWork_37 (by decide) ?_
          exact hq _ _ _ hP hD hS (lv_sub hl [1, 0] rfl)
        · have hq := hq.2 hc
          exact hq _ _ _ hP hD hS (lv_sub hl [1, 0] rfl)
set_option maxRecDepth 20000 in
theorem kwX6_errorPosition_163 : Cond.fieldLink RX6 163 "PunchedFoldsModel" "toldMany" "I" ∈ wsX6_errorPosition := by decide +kernel
set_option maxRecDepth 20000 in
theorem iwX6_errorPosition_X6 : ∀ w ∈ wsX60, w ∈ wsX6_errorPosition := by decide +kernel
set_option maxRecDepth 20000 in
theorem kwX6_errorPosition_144 : Cond.fieldLink RX6 144 "PunchedFoldsModel" "spot" "I" ∈ wsX6_errorPosition := by decide +kernel
set_option maxRecDepth 20000 in
theorem kwX6_errorPosition_147 : Cond.fieldLink RX6 147 "PunchedFoldsModel" "wrong" "I" ∈ wsX6_errorPosition := by decide +kernel
set_option maxRecDepth 20000 in
theorem kwX6_errorPosition_141 : Cond.fieldLink RX6 141 "PunchedFoldsModel" "typed" "I" ∈ wsX6_errorPosition := by decide +kernel
set_option maxHeartbeats 4000000 in
set_option maxRecDepth 100000 in
theorem c_X6_errorPosition (l : Launch) (dC : Nat → ClassId) (dI : Nat → Nat → Nat) (cI cC cS : ClassId) (aM : Nat) (aZ : Nat) (aPast : Nat) (aKz : Nat) (aBuf : Nat) (aStk : Nat) (aLaid : Nat) (aPcs : Nat) (aTold : Nat) (sz : Nat) (pastMany : Int32) (isKept : Int32) (typed : Int32) (wid : Int32) (hei : Int32) (toldMany : Int32) (spot : Int32) (wrong : Int32) (buf : Nat → Int32) (told : Nat → Int32) {post : Int32 → Int32 → Int32 → Int32 → (Nat → Int32) → Prop} (hq : wp_X6_errorPosition typed toldMany spot wrong buf told post) : Met l yX6_errorPosition wsX6_errorPosition ({ frames := 4, cells := 0, slots := 0, locals := 89 } : Room) (gn_Pre (dC, dI) cI cC cS [.ref aM] sz [(aM, .inr (5, [.ref aZ, .ref aPast, .int pastMany, .ref aKz, .int isKept, .ref aBuf, .int typed, .ref aStk, .ref aLaid, .int wid, .int hei, .ref aPcs, .ref aTold, .int toldMany, .int spot, .int wrong])), (aBuf, .inl (cC, 60, .inl buf)), (aTold, .inl (cI, 240, .inl told))]) (va_Qi (fun (r : Int32) (u : Int32 × Int32 × Int32 × (Nat → Int32)) => post r u.1 u.2.1 u.2.2.1 u.2.2.2) (fun (u : Int32 × Int32 × Int32 × (Nat → Int32)) t => va_P (dC, dI) vwCl [(aM, .inr (5, [.ref aZ, .ref aPast, .int pastMany, .ref aKz, .int isKept, .ref aBuf, .int typed, .ref aStk, .ref aLaid, .int wid, .int hei, .ref aPcs, .ref aTold, .int u.1, .int u.2.1, .int u.2.2.1])), (aBuf, .inl (cC, 60, .inl buf)), (aTold, .inl (cI, 240, .inl u.2.2.2))] t.heap ∧ va_K (dC, dI) vwCl (gn_tys cI cC cS) t ∧ va_D (va_A [(aM, .inr (5, [.ref aZ, .ref aPast, .int pastMany, .ref aKz, .int isKept, .ref aBuf, .int typed, .ref aStk, .ref aLaid, .int wid, .int hei, .ref aPcs, .ref aTold, .int toldMany, .int spot, .int wrong])), (aBuf, .inl (cC, 60, .inl buf)), (aTold, .inl (cI, 240, .inl told))] sz) [(aM, .inr (5, [.ref aZ, .ref aPast, .int pastMany, .ref aKz, .int isKept, .ref aBuf, .int typed, .ref aStk, .ref aLaid, .int wid, .int hei, .ref aPcs, .ref aTold, .int u.1, .int u.2.1, .int u.2.2.1])), (aBuf, .inl (cC, 60, .inl buf)), (aTold, .inl (cI, 240, .inl u.2.2.2))]) (va_A [(aM, .inr (5, [.ref aZ, .ref aPast, .int pastMany, .ref aKz, .int isKept, .ref aBuf, .int typed, .ref aStk, .ref aLaid, .int wid, .int hei, .ref aPcs, .ref aTold, .int toldMany, .int spot, .int wrong])), (aBuf, .inl (cC, 60, .inl buf)), (aTold, .inl (cI, 240, .inl told))] sz)) 0 0 (va_A [(aM, .inr (5, [.ref aZ, .ref aPast, .int pastMany, .ref aKz, .int isKept, .ref aBuf, .int typed, .ref aStk, .ref aLaid, .int wid, .int hei, .ref aPcs, .ref aTold, .int toldMany, .int spot, .int wrong])), (aBuf, .inl (cC, 60, .inl buf)), (aTold, .inl (cI, 240, .inl told))] sz) := by
  unfold wp_X6_errorPosition at hq
  refine Met.ofW (cc := cX6_errorPosition) (maxL := 1) (ret := (some .int)) (by decide) rfl ?_
  intro p e s m args below meth c s₁ B hml hv
  obtain ⟨rfl, hsz, hP, hK, hN, hD0⟩ := hv
  have hx := B.exec
  have hb := B.bytes
  have hr := B.returns
  have hts := atoms_spec (ws := wsX6_errorPosition) B.pre
  have hown : s.vm.findClass RX6 = some m.cls := findClass_of_methodNamed B.named
  have hlocks := B.notSynchronized
  subst hsz
  have hD := hD0.self (sz := s.heap.size)
  generalize hAe : va_A [(aM, .inr (5, [.ref aZ, .ref aPast, .int pastMany, .ref aKz, .int isKept, .ref aBuf, .int typed, .ref aStk, .ref aLaid, .int wid, .int hei, .ref aPcs, .ref aTold, .int toldMany, .int spot, .int wrong])), (aBuf, .inl (cC, 60, .inl buf)), (aTold, .inl (cI, 240, .inl told))] s.heap.size = A at hD ⊢
  have hA : ∀ q : Nat, s.heap.size ≤ q → A q := fun q h => by rw [← hAe]; exact Or.inr h
  have hS : va_S A s.heap s.heap [] := va_S.rf
  have hl := lv_entry ([.ref aM] : List Value) (n := 1) (Nat.le_of_ble_eq_true rfl)
  rw [lg_entry_eq]
  generalize (lg_sl ([.ref aM] : List Value) ++ List.replicate (1 - (lg_sl ([.ref aM] : List Value)).length) Slot.unset).toArray = ls at hl ⊢
  have hl : lv_has ls 1 [(0, .ref aM)] := hl
  refine gn_Q (hret := fun Q => ∀ (pc : Nat) (ls : Array Slot) (H : Heap) (locs : List Loc) (r : Int32) (m_toldMany : Int32) (m_spot : Int32) (m_wrong : Int32) (m_told : Nat → Int32), decode cX6_errorPosition pc = .ok (.ireturn, 1) → va_P (dC, dI) vwCl [(aM, .inr (5, [.ref aZ, .ref aPast, .int pastMany, .ref aKz, .int isKept, .ref aBuf, .int typed, .ref aStk, .ref aLaid, .int wid, .int hei, .ref aPcs, .ref aTold, .int m_toldMany, .int m_spot, .int m_wrong])), (aBuf, .inl (cC, 60, .inl buf)), (aTold, .inl (cI, 240, .inl m_told))] H → va_D A [(aM, .inr (5, [.ref aZ, .ref aPast, .int pastMany, .ref aKz, .int isKept, .ref aBuf, .int typed, .ref aStk, .ref aLaid, .int wid, .int hei, .ref aPcs, .ref aTold, .int m_toldMany, .int m_spot, .int m_wrong])), (aBuf, .inl (cC, 60, .inl buf)), (aTold, .inl (cI, 240, .inl m_told))] → va_S A s.heap H locs → post r m_toldMany m_spot m_wrong m_told → W p l e ({ frames := 4, cells := 0, slots := 0, locals := 89 } : Room) s m ([.ref aM] : List Value).toArray below meth c H locs 0 0 Q (F0 m pc ls [.int r])) (fun Q hret => ?_) ?_
  rotate_left
  · intro pc ls H locs r m_toldMany m_spot m_wrong m_told hdg hP hD hS hpost
    exact W.iret (v := r) hx hb hr (fun t ht hW => ⟨⟨r, (m_toldMany, m_spot, m_wrong, m_told), rfl, hpost, by rw [ht]; exact hP, va_K.moved hW.alike hK, hD⟩, hS.F ht⟩) hS.2.2 hdg
  refine lv_aload_n hx hb dX6_errorPosition_0 rfl (lv_at hl 0 rfl) ?_
  refine lv_iconst (v := 0) hx hb dX6_errorPosition_1 (by decide) ?_
  refine va_put (D := (dC, dI)) (ci := 5) (v := .int (0 : Int32)) (ty := .int) (C := RX6) (T := TX6) (N := 16) hx hb hts iwX6_errorPosition_X6 tyX6 tyX6_ok nmX6 hown hK hP hD hS 0 rfl rfl 13 (by decide) (hts _ kwX6_errorPosition_163) (fun _ h9 => h9) rfl (by decide +kernel) rfl rfl (Nat.le_of_ble_eq_true rfl) dX6_errorPosition_2 (fun H locs hP hD hS => ?_)
  have hP : va_P (dC, dI) vwCl [(aM, .inr (5, [.ref aZ, .ref aPast, .int pastMany, .ref aKz, .int isKept, .ref aBuf, .int typed, .ref aStk, .ref aLaid, .int wid, .int hei, .ref aPcs, .ref aTold, .int (0 : Int32), .int spot, .int wrong])), (aBuf, .inl (cC, 60, .inl buf)), (aTold, .inl (cI, 240, .inl told))] H := hP
  have hD : va_D A [(aM, .inr (5, [.ref aZ, .ref aPast, .int pastMany, .ref aKz, .int isKept, .ref aBuf, .int typed, .ref aStk, .ref aLaid, .int wid, .int hei, .ref aPcs, .ref aTold, .int (0 : Int32), .int spot, .int wrong])), (aBuf, .inl (cC, 60, .inl buf)), (aTold, .inl (cI, 240, .inl told))] := hD
  refine lv_aload_n hx hb dX6_errorPosition_5 rfl (lv_at hl 0 rfl) ?_
  refine lv_iconst (v := 0) hx hb dX6_errorPosition_6 (by decide) ?_
  refine va_put (D := (dC, dI)) (ci := 5) (v := .int (0 : Int32)) (ty := .int) (C := RX6) (T := TX6) (N := 16) hx hb hts iwX6_errorPosition_X6 tyX6 tyX6_ok nmX6 hown hK hP hD hS 0 rfl rfl 14 (by decide) (hts _ kwX6_errorPosition_144) (fun _ h9 => h9) rfl (by decide +kernel) rfl rfl (Nat.le_of_ble_eq_true rfl) dX6_errorPosition_7 (fun H locs hP hD hS => ?_)
  have hP : va_P (dC, dI) vwCl [(aM, .inr (5, [.ref aZ, .ref aPast, .int pastMany, .ref aKz, .int isKept, .ref aBuf, .int typed, .ref aStk, .ref aLaid, .int wid, .int hei, .ref aPcs, .ref aTold, .int (0 : Int32), .int (0 : Int32), .int wrong])), (aBuf, .inl (cC, 60, .inl buf)), (aTold, .inl (cI, 240, .inl told))] H := hP
  have hD : va_D A [(aM, .inr (5, [.ref aZ, .ref aPast, .int pastMany, .ref aKz, .int isKept, .ref aBuf, .int typed, .ref aStk, .ref aLaid, .int wid, .int hei, .ref aPcs, .ref aTold, .int (0 : Int32), .int (0 : Int32), .int wrong])), (aBuf, .inl (cC, 60, .inl buf)), (aTold, .inl (cI, 240, .inl told))] := hD
  refine lv_aload_n hx hb dX6_errorPosition_10 rfl (lv_at hl 0 rfl) ?_
  refine lv_bipush (v := -6) hx hb dX6_errorPosition_11 (by decide) ?_
  refine va_put (D := (dC, dI)) (ci := 5) (v := .int (-6 : Int32)) (ty := .int) (C := RX6) (T := TX6) (N := 16) hx hb hts iwX6_errorPosition_X6 tyX6 tyX6_ok nmX6 hown hK hP hD hS 0 rfl rfl 15 (by decide) (hts _ kwX6_errorPosition_147) (fun _ h9 => h9) rfl (by decide +kernel) rfl rfl (Nat.le_of_ble_eq_true rfl) dX6_errorPosition_13 (fun H locs hP hD hS => ?_)
  have hP : va_P (dC, dI) vwCl [(aM, .inr (5, [.ref aZ, .ref aPast, .int pastMany, .ref aKz, .int isKept, .ref aBuf, .int typed, .ref aStk, .ref aLaid, .int wid, .int hei, .ref aPcs, .ref aTold, .int (0 : Int32), .int (0 : Int32), .int (-6 : Int32)])), (aBuf, .inl (cC, 60, .inl buf)), (aTold, .inl (cI, 240, .inl told))] H := hP
  have hD : va_D A [(aM, .inr (5, [.ref aZ, .ref aPast, .int pastMany, .ref aKz, .int isKept, .ref aBuf, .int typed, .ref aStk, .ref aLaid, .int wid, .int hei, .ref aPcs, .ref aTold, .int (0 : Int32), .int (0 : Int32), .int (-6 : Int32)])), (aBuf, .inl (cC, 60, .inl buf)), (aTold, .inl (cI, 240, .inl told))] := hD
  refine lv_aload_n hx hb dX6_errorPosition_16 rfl (lv_at hl 0 rfl) ?_
  have hPc := hP.sub (ws' := [(aM, .inr (5, [.ref aZ, .ref aPast, .int pastMany, .ref aKz, .int isKept, .ref aBuf, .int typed, .ref aStk, .ref aLaid, .int wid, .int hei, .ref aPcs, .ref aTold, .int (0 : Int32), .int (0 : Int32), .int (-6 : Int32)])), (aBuf, .inl (cC, 60, .inl buf)), (aTold, .inl (cI, 240, .inl told))]) [0, 1, 2] rfl
  have hDc := hD.sub (ws' := [(aM, .inr (5, [.ref aZ, .ref aPast, .int pastMany, .ref aKz, .int isKept, .ref aBuf, .int typed, .ref aStk, .ref aLaid, .int wid, .int hei, .ref aPcs, .ref aTold, .int (0 : Int32), .int (0 : Int32), .int (-6 : Int32)])), (aBuf, .inl (cC, 60, .inl buf)), (aTold, .inl (cI, 240, .inl told))]) [0, 1, 2] (by decide) rfl
  have hFc := va_free (wc := [(aM, .inr (5, [.ref aZ, .ref aPast, .int pastMany, .ref aKz, .int isKept, .ref aBuf, .int typed, .ref aStk, .ref aLaid, .int wid, .int hei, .ref aPcs, .ref aTold, .int (0 : Int32), .int (0 : Int32), .int (-6 : Int32)])), (aBuf, .inl (cC, 60, .inl buf)), (aTold, .inl (cI, 240, .inl told))]) hD hS hA [0, 1, 2] rfl
  refine va_callv (va_runV (As := []) (rest := []) ⟨hx, hb, hml, hown, hts⟩ (c_X6_readWork l dC dI cI cC cS aM aZ aPast aKz aBuf aStk aLaid aPcs aTold _ pastMany isKept typed wid hei (0 : Int32) (0 : Int32) (-6 : Int32) buf told hq) (cwV 0 hts gX6_errorPosition_X6_readWork rfl rfl rfl (by decide +kernel) ⟨Nat.le_of_ble_eq_true rfl, Nat.le_of_ble_eq_true rfl⟩) (gn_preV hPc hK hN hDc (ci := 5) (q0 := 0) rfl rfl) rfl rfl hl.1 rfl (lv_room (Nat.le_of_ble_eq_true rfl)) dX6_errorPosition_17 ⟨Nat.zero_le _, Nat.zero_le _⟩) hS (fun q _ h => hFc q h) hFc (fun u t H1 locs ht hvm hq hB hz1 hk1 hS => ?_)
  obtain ⟨toldMany__1, spot__2, wrong__3, told__4⟩ := u
  obtain ⟨hP1, hK1, hD1⟩ := hB
  rw [ht] at hP1
  try dsimp only at hq
  obtain ⟨hP, hD⟩ := va_join (wr := []) (w1 := [(aM, .inr (5, [.ref aZ, .ref aPast, .int pastMany, .ref aKz, .int isKept, .ref aBuf, .int typed, .ref aStk, .ref aLaid, .int wid, .int hei, .ref aPcs, .ref aTold, .int toldMany__1, .int spot__2, .int wrong__3])), (aBuf, .inl (cC, 60, .inl buf)), (aTold, .inl (cI, 240, .inl told__4))]) hP hD [0, 1, 2] [] rfl rfl (by decide) (by decide) hk1 hFc hP1 hD1
  have hP := hP.sub (ws' := [(aM, .inr (5, [.ref aZ, .ref aPast, .int pastMany, .ref aKz, .int isKept, .ref aBuf, .int typed, .ref aStk, .ref aLaid, .int wid, .int hei, .ref aPcs, .ref aTold, .int toldMany__1, .int spot__2, .int wrong__3])), (aBuf, .inl (cC, 60, .inl buf)), (aTold, .inl (cI, 240, .inl told__4))]) [0, 1, 2] rfl
  have hD := hD.sub (ws' := [(aM, .inr (5, [.ref aZ, .ref aPast, .int pastMany, .ref aKz, .int isKept, .ref aBuf, .int typed, .ref aStk, .ref aLaid, .int wid, .int hei, .ref aPcs, .ref aTold, .int toldMany__1, .int spot__2, .int wrong__3])), (aBuf, .inl (cC, 60, .inl buf)), (aTold, .inl (cI, 240, .inl told__4))]) [0, 1, 2] (by decide) rfl
  generalize H1 = H at hP hS ⊢
  have hq := hq (fun (toldMany__5 : Int32) (spot__6 : Int32) (wrong__7 : Int32) (told__8 : Nat → Int32) => ∀ (H : Heap) (locs : List Loc) (ls : Array Slot), va_P (dC, dI) vwCl [(aM, .inr (5, [.ref aZ, .ref aPast, .int pastMany, .ref aKz, .int isKept, .ref aBuf, .int typed, .ref aStk, .ref aLaid, .int wid, .int hei, .ref aPcs, .ref aTold, .int toldMany__5, .int spot__6, .int wrong__7])), (aBuf, .inl (cC, 60, .inl buf)), (aTold, .inl (cI, 240, .inl told__8))] H → va_D A [(aM, .inr (5, [.ref aZ, .ref aPast, .int pastMany, .ref aKz, .int isKept, .ref aBuf, .int typed, .ref aStk, .ref aLaid, .int wid, .int hei, .ref aPcs, .ref aTold, .int toldMany__5, .int spot__6, .int wrong__7])), (aBuf, .inl (cC, 60, .inl buf)), (aTold, .inl (cI, 240, .inl told__8))] → va_S A s.heap H locs → lv_has ls 1 [(0, .ref aM)] → W p l e ({ frames := 4, cells := 0, slots := 0, locals := 89 } : Room) s m ([.ref aM] : List Value).toArray below meth c H locs 0 0 Q (F0 m 20 ls [])) (by
    intro toldMany__5 spot__6 wrong__7 told__8 hq H locs ls hP hD hS hl
    refine lv_aload_n hx hb dX6_errorPosition_20 rfl (lv_at hl 0 rfl) ?_
    refine va_get (D := (dC, dI)) (ci := 5) (v := .int wrong__7) (C := RX6) (T := TX6) (N := 16) hx hb hts iwX6_errorPosition_X6 hown hK hP 0 rfl rfl 15 (by decide) (hts _ kwX6_errorPosition_147) (fun _ h9 => h9) rfl dX6_errorPosition_21 ?_
    refine lv_bipush (v := -6) hx hb dX6_errorPosition_24 (by decide) ?_
    have hq := hq (∀ (H : Heap) (locs : List Loc) (ls : Array Slot), va_P (dC, dI) vwCl [(aM, .inr (5, [.ref aZ, .ref aPast, .int pastMany, .ref aKz, .int isKept, .ref aBuf, .int typed, .ref aStk, .ref aLaid, .int wid, .int hei, .ref aPcs, .ref aTold, .int toldMany__5, .int spot__6, .int wrong__7])), (aBuf, .inl (cC, 60, .inl buf)), (aTold, .inl (cI, 240, .inl told__8))] H → va_D A [(aM, .inr (5, [.ref aZ, .ref aPast, .int pastMany, .ref aKz, .int isKept, .ref aBuf, .int typed, .ref aStk, .ref aLaid, .int wid, .int hei, .ref aPcs, .ref aTold, .int toldMany__5, .int spot__6, .int wrong__7])), (aBuf, .inl (cC, 60, .inl buf)), (aTold, .inl (cI, 240, .inl told__8))] → va_S A s.heap H locs → lv_has ls 1 [(0, .ref aM)] → W p l e ({ frames := 4, cells := 0, slots := 0, locals := 89 } : Room) s m ([.ref aM] : List Value).toArray below meth c H locs 0 0 Q (F0 m 47 ls [])) (by
      intro  hq H locs ls hP hD hS hl
      refine lv_aload_n hx hb dX6_errorPosition_47 rfl (lv_at hl 0 rfl) ?_
      refine va_get (D := (dC, dI)) (ci := 5) (v := .int wrong__7) (C := RX6) (T := TX6) (N := 16) hx hb hts iwX6_errorPosition_X6 hown hK hP 0 rfl rfl 15 (by decide) (hts _ kwX6_errorPosition_147) (fun _ h9 => h9) rfl dX6_errorPosition_48 ?_
      exact hret _ _ _ _ _ _ _ _ _ dX6_errorPosition_51 hP hD hS hq)
    refine lv_icmp_ne (tgt := 47) hx hb dX6_errorPosition_26 (by decide) (fun hc => ?_) (fun hc => ?_)
    · have hq := hq.1 hc
      exact hq _ _ _ hP hD hS (lv_sub hl [0] rfl)
    · have hq := hq.2 hc
      refine lv_aload_n hx hb dX6_errorPosition_29 rfl (lv_at hl 0 rfl) ?_
      refine va_get (D := (dC, dI)) (ci := 5) (v := .int spot__6) (C := RX6) (T := TX6) (N := 16) hx hb hts iwX6_errorPosition_X6 hown hK hP 0 rfl rfl 14 (by decide) (hts _ kwX6_errorPosition_144) (fun _ h9 => h9) rfl dX6_errorPosition_30 ?_
      refine lv_aload_n hx hb dX6_errorPosition_33 rfl (lv_at hl 0 rfl) ?_
      refine va_get (D := (dC, dI)) (ci := 5) (v := .int typed) (C := RX6) (T := TX6) (N := 16) hx hb hts iwX6_errorPosition_X6 hown hK hP 0 rfl rfl 6 (by decide) (hts _ kwX6_errorPosition_141) (fun _ h9 => h9) rfl dX6_errorPosition_34 ?_
      refine lv_icmp_ge (tgt := 47) hx hb dX6_errorPosition_37 (by decide) (fun hc => ?_) (fun hc => ?_)
      · have hq := hq.1 hc
        exact hq _ _ _ hP hD hS (lv_sub hl [0] rfl)
      · have hq := hq.2 hc
        refine lv_aload_n hx hb dX6_errorPosition_40 rfl (lv_at hl 0 rfl) ?_
        have hPc := hP.sub (ws' := [(aM, .inr (5, [.ref aZ, .ref aPast, .int pastMany, .ref aKz, .int isKept, .ref aBuf, .int typed, .ref aStk, .ref aLaid, .int wid, .int hei, .ref aPcs, .ref aTold, .int toldMany__5, .int spot__6, .int wrong__7])), (aBuf, .inl (cC, 60, .inl buf)), (aTold, .inl (cI, 240, .inl told__8))]) [0, 1, 2] rfl
        have hDc := hD.sub (ws' := [(aM, .inr (5, [.ref aZ, .ref aPast, .int pastMany, .ref aKz, .int isKept, .ref aBuf, .int typed, .ref aStk, .ref aLaid, .int wid, .int hei, .ref aPcs, .ref aTold, .int toldMany__5, .int spot__6, .int wrong__7])), (aBuf, .inl (cC, 60, .inl buf)), (aTold, .inl (cI, 240, .inl told__8))]) [0, 1, 2] (by decide) rfl
        have hFc := va_free (wc := [(aM, .inr (5, [.ref aZ, .ref aPast, .int pastMany, .ref aKz, .int isKept, .ref aBuf, .int typed, .ref aStk, .ref aLaid, .int wid, .int hei, .ref aPcs, .ref aTold, .int toldMany__5, .int spot__6, .int wrong__7])), (aBuf, .inl (cC, 60, .inl buf)), (aTold, .inl (cI, 240, .inl told__8))]) hD hS hA [0, 1, 2] rfl
        refine va_callv (va_runV (As := []) (rest := []) ⟨hx, hb, hml, hown, hts⟩ (c_X6_readWork l dC dI cI cC cS aM aZ aPast aKz aBuf aStk aLaid aPcs aTold _ pastMany isKept typed wid hei toldMany__5 spot__6 wrong__7 buf told__8 hq) (cwV 0 hts gX6_errorPosition_X6_readWork rfl rfl rfl (by decide +kernel) ⟨Nat.le_of_ble_eq_true rfl, Nat.le_of_ble_eq_true rfl⟩) (gn_preV hPc hK hN hDc (ci := 5) (q0 := 0) rfl rfl) rfl rfl hl.1 rfl (lv_room (Nat.le_of_ble_eq_true rfl)) dX6_errorPosition_41 ⟨Nat.zero_le _, Nat.zero_le _⟩) hS (fun q _ h => hFc q h) hFc (fun u t H1 locs ht hvm hq hB hz1 hk1 hS => ?_)
        obtain ⟨toldMany__9, spot__10, wrong__11, told__12⟩ := u
        obtain ⟨hP1, hK1, hD1⟩ := hB
        rw [ht] at hP1
        try dsimp only at hq
        obtain ⟨hP, hD⟩ := va_join (wr := []) (w1 := [(aM, .inr (5, [.ref aZ, .ref aPast, .int pastMany, .ref aKz, .int isKept, .ref aBuf, .int typed, .ref aStk, .ref aLaid, .int wid, .int hei, .ref aPcs, .ref aTold, .int toldMany__9, .int spot__10, .int wrong__11])), (aBuf, .inl (cC, 60, .inl buf)), (aTold, .inl (cI, 240, .inl told__12))]) hP hD [0, 1, 2] [] rfl rfl (by decide) (by decide) hk1 hFc hP1 hD1
        have hP := hP.sub (ws' := [(aM, .inr (5, [.ref aZ, .ref aPast, .int pastMany, .ref aKz, .int isKept, .ref aBuf, .int typed, .ref aStk, .ref aLaid, .int wid, .int hei, .ref aPcs, .ref aTold, .int toldMany__9, .int spot__10, .int wrong__11])), (aBuf, .inl (cC, 60, .inl buf)), (aTold, .inl (cI, 240, .inl told__12))]) [0, 1, 2] rfl
        have hD := hD.sub (ws' := [(aM, .inr (5, [.ref aZ, .ref aPast, .int pastMany, .ref aKz, .int isKept, .ref aBuf, .int typed, .ref aStk, .ref aLaid, .int wid, .int hei, .ref aPcs, .ref aTold, .int toldMany__9, .int spot__10, .int wrong__11])), (aBuf, .inl (cC, 60, .inl buf)), (aTold, .inl (cI, 240, .inl told__12))]) [0, 1, 2] (by decide) rfl
        generalize H1 = H at hP hS ⊢
        refine lv_goto (tgt := 20) hx hb dX6_errorPosition_44 (by decide) ?_
        exact hq _ _ _ hP hD hS (lv_sub hl [0] rfl))
  exact hq _ _ _ hP hD hS (lv_sub hl [0] rfl)
set_option maxRecDepth 20000 in
theorem kwX6_doOne_32 : Cond.fieldLink RX6 32 "PunchedFoldsModel" "told" "[I" ∈ wsX6_doOne := by decide +kernel
set_option maxRecDepth 20000 in
theorem iwX6_doOne_X6 : ∀ w ∈ wsX60, w ∈ wsX6_doOne := by decide +kernel
set_option maxRecDepth 20000 in
theorem kwX6_doOne_7 : Cond.fieldLink RX6 7 "PunchedFoldsModel" "z" "[I" ∈ wsX6_doOne := by decide +kernel
set_option maxHeartbeats 4000000 in
set_option maxRecDepth 100000 in
theorem c_X6_doOne (l : Launch) (dC : Nat → ClassId) (dI : Nat → Nat → Nat) (cI cC cS : ClassId) (aM : Nat) (aZ : Nat) (aPast : Nat) (aKz : Nat) (aBuf : Nat) (aStk : Nat) (aLaid : Nat) (aPcs : Nat) (aTold : Nat) (sz : Nat) (pastMany : Int32) (isKept : Int32) (typed : Int32) (wid : Int32) (hei : Int32) (toldMany : Int32) (spot : Int32) (wrong : Int32) (zz : Nat → Int32) (stk : Nat → Int32) (laid : Nat → Int32) (told : Nat → Int32) (x1 : Int32) {post : Int32 → Int32 → Int32 → (Nat → Int32) → (Nat → Int32) → (Nat → Int32) → Prop} (hq : wp_X6_doOne wid hei zz stk laid told x1 post) : Met l yX6_doOne wsX6_doOne ({ frames := 6, cells := 0, slots := 0, locals := 143 } : Room) (gn_Pre (dC, dI) cI cC cS [.ref aM, .int x1] sz [(aM, .inr (5, [.ref aZ, .ref aPast, .int pastMany, .ref aKz, .int isKept, .ref aBuf, .int typed, .ref aStk, .ref aLaid, .int wid, .int hei, .ref aPcs, .ref aTold, .int toldMany, .int spot, .int wrong])), (aZ, .inl (cI, 207, .inl zz)), (aStk, .inl (cI, 64, .inl stk)), (aLaid, .inl (cI, 64, .inl laid)), (aTold, .inl (cI, 240, .inl told))]) (va_Qi (fun (r : Int32) (u : Int32 × Int32 × (Nat → Int32) × (Nat → Int32) × (Nat → Int32)) => post r u.1 u.2.1 u.2.2.1 u.2.2.2.1 u.2.2.2.2) (fun (u : Int32 × Int32 × (Nat → Int32) × (Nat → Int32) × (Nat → Int32)) t => va_P (dC, dI) vwCl [(aM, .inr (5, [.ref aZ, .ref aPast, .int pastMany, .ref aKz, .int isKept, .ref aBuf, .int typed, .ref aStk, .ref aLaid, .int u.1, .int u.2.1, .ref aPcs, .ref aTold, .int toldMany, .int spot, .int wrong])), (aZ, .inl (cI, 207, .inl u.2.2.1)), (aStk, .inl (cI, 64, .inl u.2.2.2.1)), (aLaid, .inl (cI, 64, .inl u.2.2.2.2)), (aTold, .inl (cI, 240, .inl told))] t.heap ∧ va_K (dC, dI) vwCl (gn_tys cI cC cS) t ∧ va_D (va_A [(aM, .inr (5, [.ref aZ, .ref aPast, .int pastMany, .ref aKz, .int isKept, .ref aBuf, .int typed, .ref aStk, .ref aLaid, .int wid, .int hei, .ref aPcs, .ref aTold, .int toldMany, .int spot, .int wrong])), (aZ, .inl (cI, 207, .inl zz)), (aStk, .inl (cI, 64, .inl stk)), (aLaid, .inl (cI, 64, .inl laid)), (aTold, .inl (cI, 240, .inl told))] sz) [(aM, .inr (5, [.ref aZ, .ref aPast, .int pastMany, .ref aKz, .int isKept, .ref aBuf, .int typed, .ref aStk, .ref aLaid, .int u.1, .int u.2.1, .ref aPcs, .ref aTold, .int toldMany, .int spot, .int wrong])), (aZ, .inl (cI, 207, .inl u.2.2.1)), (aStk, .inl (cI, 64, .inl u.2.2.2.1)), (aLaid, .inl (cI, 64, .inl u.2.2.2.2)), (aTold, .inl (cI, 240, .inl told))]) (va_A [(aM, .inr (5, [.ref aZ, .ref aPast, .int pastMany, .ref aKz, .int isKept, .ref aBuf, .int typed, .ref aStk, .ref aLaid, .int wid, .int hei, .ref aPcs, .ref aTold, .int toldMany, .int spot, .int wrong])), (aZ, .inl (cI, 207, .inl zz)), (aStk, .inl (cI, 64, .inl stk)), (aLaid, .inl (cI, 64, .inl laid)), (aTold, .inl (cI, 240, .inl told))] sz)) 0 0 (va_A [(aM, .inr (5, [.ref aZ, .ref aPast, .int pastMany, .ref aKz, .int isKept, .ref aBuf, .int typed, .ref aStk, .ref aLaid, .int wid, .int hei, .ref aPcs, .ref aTold, .int toldMany, .int spot, .int wrong])), (aZ, .inl (cI, 207, .inl zz)), (aStk, .inl (cI, 64, .inl stk)), (aLaid, .inl (cI, 64, .inl laid)), (aTold, .inl (cI, 240, .inl told))] sz) := by
  unfold wp_X6_doOne at hq
  refine Met.ofW (cc := cX6_doOne) (maxL := 8) (ret := (some .int)) (by decide) rfl ?_
  intro p e s m args below meth c s₁ B hml hv
  obtain ⟨rfl, hsz, hP, hK, hN, hD0⟩ := hv
  have hx := B.exec
  have hb := B.bytes
  have hr := B.returns
  have hts := atoms_spec (ws := wsX6_doOne) B.pre
  have hown : s.vm.findClass RX6 = some m.cls := findClass_of_methodNamed B.named
  have hlocks := B.notSynchronized
  subst hsz
  have hD := hD0.self (sz := s.heap.size)
  generalize hAe : va_A [(aM, .inr (5, [.ref aZ, .ref aPast, .int pastMany, .ref aKz, .int isKept, .ref aBuf, .int typed, .ref aStk, .ref aLaid, .int wid, .int hei, .ref aPcs, .ref aTold, .int toldMany, .int spot, .int wrong])), (aZ, .inl (cI, 207, .inl zz)), (aStk, .inl (cI, 64, .inl stk)), (aLaid, .inl (cI, 64, .inl laid)), (aTold, .inl (cI, 240, .inl told))] s.heap.size = A at hD ⊢
  have hA : ∀ q : Nat, s.heap.size ≤ q → A q := fun q h => by rw [← hAe]; exact Or.inr h
  have hS : va_S A s.heap s.heap [] := va_S.rf
  have hl := lv_entry ([.ref aM, .int x1] : List Value) (n := 8) (Nat.le_of_ble_eq_true rfl)
  rw [lg_entry_eq]
  generalize (lg_sl ([.ref aM, .int x1] : List Value) ++ List.replicate (8 - (lg_sl ([.ref aM, .int x1] : List Value)).length) Slot.unset).toArray = ls at hl ⊢
  have hl : lv_has ls 8 [(0, .ref aM), (1, .int x1)] := hl
  refine gn_Q (hret := fun Q => ∀ (pc : Nat) (ls : Array Slot) (H : Heap) (locs : List Loc) (r : Int32) (m_wid : Int32) (m_hei : Int32) (m_zz : Nat → Int32) (m_stk : Nat → Int32) (m_laid : Nat → Int32), decode cX6_doOne pc = .ok (.ireturn, 1) → va_P (dC, dI) vwCl [(aM, .inr (5, [.ref aZ, .ref aPast, .int pastMany, .ref aKz, .int isKept, .ref aBuf, .int typed, .ref aStk, .ref aLaid, .int m_wid, .int m_hei, .ref aPcs, .ref aTold, .int toldMany, .int spot, .int wrong])), (aZ, .inl (cI, 207, .inl m_zz)), (aStk, .inl (cI, 64, .inl m_stk)), (aLaid, .inl (cI, 64, .inl m_laid)), (aTold, .inl (cI, 240, .inl told))] H → va_D A [(aM, .inr (5, [.ref aZ, .ref aPast, .int pastMany, .ref aKz, .int isKept, .ref aBuf, .int typed, .ref aStk, .ref aLaid, .int m_wid, .int m_hei, .ref aPcs, .ref aTold, .int toldMany, .int spot, .int wrong])), (aZ, .inl (cI, 207, .inl m_zz)), (aStk, .inl (cI, 64, .inl m_stk)), (aLaid, .inl (cI, 64, .inl m_laid)), (aTold, .inl (cI, 240, .inl told))] → va_S A s.heap H locs → post r m_wid m_hei m_zz m_stk m_laid → W p l e ({ frames := 6, cells := 0, slots := 0, locals := 143 } : Room) s m ([.ref aM, .int x1] : List Value).toArray below meth c H locs 0 0 Q (F0 m pc ls [.int r])) (fun Q hret => ?_) ?_
  rotate_left
  · intro pc ls H locs r m_wid m_hei m_zz m_stk m_laid hdg hP hD hS hpost
    exact W.iret (v := r) hx hb hr (fun t ht hW => ⟨⟨r, (m_wid, m_hei, m_zz, m_stk, m_laid), rfl, hpost, by rw [ht]; exact hP, va_K.moved hW.alike hK, hD⟩, hS.F ht⟩) hS.2.2 hdg
  refine lv_aload_n hx hb dX6_doOne_0 rfl (lv_at hl 0 rfl) ?_
  refine va_get (D := (dC, dI)) (ci := 5) (v := .ref aTold) (C := RX6) (T := TX6) (N := 16) hx hb hts iwX6_doOne_X6 hown hK hP 0 rfl rfl 12 (by decide) (hts _ kwX6_doOne_32) (fun _ h9 => h9) rfl dX6_doOne_1 ?_
  refine lv_iload_n hx hb dX6_doOne_4 rfl (lv_at hl 1 rfl) ?_
  refine lv_iconst (v := 1) hx hb dX6_doOne_5 (by decide) ?_
  refine lv_iadd hx hb dX6_doOne_6 ?_
  have hin := hq.1
  have hq := hq.2
  refine va_iald hx hb hK hP 4 0 rfl rfl hin dX6_doOne_7 ?_
  refine lv_topi (fun w2_1 ew2_1 => ?_)
  have hq := hq w2_1 ew2_1
  refine lv_istore_n (lv' := [(2, .int w2_1), (0, .ref aM), (1, .int x1)]) hx hb dX6_doOne_8 rfl hl (by decide) rfl (fun ls hl => ?_)
  refine lv_aload_n hx hb dX6_doOne_9 rfl (lv_at hl 1 rfl) ?_
  refine va_get (D := (dC, dI)) (ci := 5) (v := .ref aTold) (C := RX6) (T := TX6) (N := 16) hx hb hts iwX6_doOne_X6 hown hK hP 0 rfl rfl 12 (by decide) (hts _ kwX6_doOne_32) (fun _ h9 => h9) rfl dX6_doOne_10 ?_
  refine lv_iload_n hx hb dX6_doOne_13 rfl (lv_at hl 2 rfl) ?_
  refine lv_iconst (v := 2) hx hb dX6_doOne_14 (by decide) ?_
  refine lv_iadd hx hb dX6_doOne_15 ?_
  have hin := hq.1
  have hq := hq.2
  refine va_iald hx hb hK hP 4 0 rfl rfl hin dX6_doOne_16 ?_
  refine lv_topi (fun w3_2 ew3_2 => ?_)
  have hq := hq w3_2 ew3_2
  refine lv_istore_n (lv' := [(3, .int w3_2), (2, .int w2_1), (0, .ref aM), (1, .int x1)]) hx hb dX6_doOne_17 rfl hl (by decide) rfl (fun ls hl => ?_)
  refine lv_aload_n hx hb dX6_doOne_18 rfl (lv_at hl 2 rfl) ?_
  refine va_get (D := (dC, dI)) (ci := 5) (v := .ref aTold) (C := RX6) (T := TX6) (N := 16) hx hb hts iwX6_doOne_X6 hown hK hP 0 rfl rfl 12 (by decide) (hts _ kwX6_doOne_32) (fun _ h9 => h9) rfl dX6_doOne_19 ?_
  refine lv_iload_n hx hb dX6_doOne_22 rfl (lv_at hl 3 rfl) ?_
  refine lv_iconst (v := 3) hx hb dX6_doOne_23 (by decide) ?_
  refine lv_iadd hx hb dX6_doOne_24 ?_
  have hin := hq.1
  have hq := hq.2
  refine va_iald hx hb hK hP 4 0 rfl rfl hin dX6_doOne_25 ?_
  refine lv_topi (fun w4_3 ew4_3 => ?_)
  have hq := hq w4_3 ew4_3
  refine lv_istore (lv' := [(4, .int w4_3), (3, .int w3_2), (2, .int w2_1), (0, .ref aM), (1, .int x1)]) hx hb dX6_doOne_26 hl (by decide) rfl (fun ls hl => ?_)
  refine lv_aload_n hx hb dX6_doOne_28 rfl (lv_at hl 3 rfl) ?_
  refine va_get (D := (dC, dI)) (ci := 5) (v := .ref aTold) (C := RX6) (T := TX6) (N := 16) hx hb hts iwX6_doOne_X6 hown hK hP 0 rfl rfl 12 (by decide) (hts _ kwX6_doOne_32) (fun _ h9 => h9) rfl dX6_doOne_29 ?_
  refine lv_iload_n hx hb dX6_doOne_32 rfl (lv_at hl 4 rfl) ?_
  have hin := hq.1
  have hq := hq.2
  refine va_iald hx hb hK hP 4 0 rfl rfl hin dX6_doOne_33 ?_
  refine lv_topi (fun w5_4 ew5_4 => ?_)
  have hq := hq w5_4 ew5_4
  refine lv_istore (lv' := [(5, .int w5_4), (4, .int w4_3), (3, .int w3_2), (2, .int w2_1), (0, .ref aM), (1, .int x1)]) hx hb dX6_doOne_34 hl (by decide) rfl (fun ls hl => ?_)
  refine lv_iconst (v := 0) hx hb dX6_doOne_36 (by decide) ?_
  refine lv_istore (lv' := [(6, .int (0 : Int32)), (5, .int w5_4), (4, .int w4_3), (3, .int w3_2), (2, .int w2_1), (0, .ref aM), (1, .int x1)]) hx hb dX6_doOne_37 hl (by decide) rfl (fun ls hl => ?_)
  refine lv_iload hx hb dX6_doOne_39 (lv_at hl 1 rfl) ?_
  refine lv_bipush (v := 85) hx hb dX6_doOne_41 (by decide) ?_
  have hq := hq (fun (v6_5 : Int32) (wid__6 : Int32) (hei__7 : Int32) (zz__8 : Nat → Int32) (stk__9 : Nat → Int32) (laid__10 : Nat → Int32) => ∀ (H : Heap) (locs : List Loc) (ls : Array Slot), va_P (dC, dI) vwCl [(aM, .inr (5, [.ref aZ, .ref aPast, .int pastMany, .ref aKz, .int isKept, .ref aBuf, .int typed, .ref aStk, .ref aLaid, .int wid__6, .int hei__7, .ref aPcs, .ref aTold, .int toldMany, .int spot, .int wrong])), (aZ, .inl (cI, 207, .inl zz__8)), (aStk, .inl (cI, 64, .inl stk__9)), (aLaid, .inl (cI, 64, .inl laid__10)), (aTold, .inl (cI, 240, .inl told))] H → va_D A [(aM, .inr (5, [.ref aZ, .ref aPast, .int pastMany, .ref aKz, .int isKept, .ref aBuf, .int typed, .ref aStk, .ref aLaid, .int wid__6, .int hei__7, .ref aPcs, .ref aTold, .int toldMany, .int spot, .int wrong])), (aZ, .inl (cI, 207, .inl zz__8)), (aStk, .inl (cI, 64, .inl stk__9)), (aLaid, .inl (cI, 64, .inl laid__10)), (aTold, .inl (cI, 240, .inl told))] → va_S A s.heap H locs → lv_has ls 8 [(6, .int v6_5)] → W p l e ({ frames := 6, cells := 0, slots := 0, locals := 143 } : Room) s m ([.ref aM, .int x1] : List Value).toArray below meth c H locs 0 0 Q (F0 m 190 ls [])) (by
    intro v6_5 wid__6 hei__7 zz__8 stk__9 laid__10 hq H locs ls hP hD hS hl
    refine lv_iload hx hb dX6_doOne_190 (lv_at hl 0 rfl) ?_
    exact hret _ _ _ _ _ _ _ _ _ _ dX6_doOne_192 hP hD hS hq)
  refine lv_icmp_ne (tgt := 76) hx hb dX6_doOne_43 (by decide) (fun hc => ?_) (fun hc => ?_)
  · have hq := hq.1 hc
    refine lv_iload hx hb dX6_doOne_76 (lv_at hl 1 rfl) ?_
    refine lv_bipush (v := 80) hx hb dX6_doOne_78 (by decide) ?_
    refine lv_icmp_ne (tgt := 130) hx hb dX6_doOne_80 (by decide) (fun hc => ?_) (fun hc => ?_)
    · have hq := hq.1 hc
      refine lv_iload hx hb dX6_doOne_130 (lv_at hl 1 rfl) ?_
      refine lv_bipush (v := 73) hx hb dX6_doOne_132 (by decide) ?_
      refine lv_icmp_ne (tgt := 164) hx hb dX6_doOne_134 (by decide) (fun hc => ?_) (fun hc => ?_)
      · have hq := hq.1 hc
        refine lv_aload_n hx hb dX6_doOne_164 rfl (lv_at hl 5 rfl) ?_
        refine lv_iload hx hb dX6_doOne_165 (lv_at hl 1 rfl) ?_
        have hPc := hP.sub (ws' := []) [] rfl
        have hDc := hD.sub (ws' := []) [] (by decide) rfl
        have hFc := va_free (wc := []) hD hS hA [] rfl
        refine va_calli (va_runS (As := [.int w5_4]) (rest := [.ref aM]) ⟨hx, hb, hml, hown, hts⟩ (c_X6_foldBy l dC dI cI cC cS _ w5_4 hq) (va_cwS 1 hts gX6_doOne_X6_foldBy rfl rfl rfl (by decide +kernel) ⟨Nat.le_of_ble_eq_true rfl, Nat.le_of_ble_eq_true rfl⟩) (gn_preS hPc hK hN hDc) rfl rfl hl.1 rfl (lv_room (Nat.le_of_ble_eq_true rfl)) dX6_doOne_167 ⟨Nat.zero_le _, Nat.zero_le _⟩) hS (fun q _ h => hFc q h) hFc (fun r_11 u t H1 locs ht hvm hq hB hz1 hk1 hS => ?_)
        obtain ⟨hP1, hK1, hD1⟩ := hB
        rw [ht] at hP1
        try dsimp only at hq
        obtain ⟨hP, hD⟩ := va_join (wr := [(aM, .inr (5, [.ref aZ, .ref aPast, .int pastMany, .ref aKz, .int isKept, .ref aBuf, .int typed, .ref aStk, .ref aLaid, .int wid, .int hei, .ref aPcs, .ref aTold, .int toldMany, .int spot, .int wrong])), (aZ, .inl (cI, 207, .inl zz)), (aStk, .inl (cI, 64, .inl stk)), (aLaid, .inl (cI, 64, .inl laid)), (aTold, .inl (cI, 240, .inl told))]) (w1 := []) hP hD [] [0, 1, 2, 3, 4] rfl rfl (by decide) (by decide) hk1 hFc hP1 hD1
        have hP := hP.sub (ws' := [(aM, .inr (5, [.ref aZ, .ref aPast, .int pastMany, .ref aKz, .int isKept, .ref aBuf, .int typed, .ref aStk, .ref aLaid, .int wid, .int hei, .ref aPcs, .ref aTold, .int toldMany, .int spot, .int wrong])), (aZ, .inl (cI, 207, .inl zz)), (aStk, .inl (cI, 64, .inl stk)), (aLaid, .inl (cI, 64, .inl laid)), (aTold, .inl (cI, 240, .inl told))]) [0, 1, 2, 3, 4] rfl
        have hD := hD.sub (ws' := [(aM, .inr (5, [.ref aZ, .ref aPast, .int pastMany, .ref aKz, .int isKept, .ref aBuf, .int typed, .ref aStk, .ref aLaid, .int wid, .int hei, .ref aPcs, .ref aTold, .int toldMany, .int spot, .int wrong])), (aZ, .inl (cI, 207, .inl zz)), (aStk, .inl (cI, 64, .inl stk)), (aLaid, .inl (cI, 64, .inl laid)), (aTold, .inl (cI, 240, .inl told))]) [0, 1, 2, 3, 4] (by decide) rfl
        generalize H1 = H at hP hS ⊢
        have hPc := hP.sub (ws' := [(aM, .inr (5, [.ref aZ, .ref aPast, .int pastMany, .ref aKz, .int isKept, .ref aBuf, .int typed, .ref aStk, .ref aLaid, .int wid, .int hei, .ref aPcs, .ref aTold, .int toldMany, .int spot, .int wrong])), (aZ, .inl (cI, 207, .inl zz)), (aStk, .inl (cI, 64, .inl stk)), (aLaid, .inl (cI, 64, .inl laid))]) [0, 1, 2, 3] rfl
        have hDc := hD.sub (ws' := [(aM, .inr (5, [.ref aZ, .ref aPast, .int pastMany, .ref aKz, .int isKept, .ref aBuf, .int typed, .ref aStk, .ref aLaid, .int wid, .int hei, .ref aPcs, .ref aTold, .int toldMany, .int spot, .int wrong])), (aZ, .inl (cI, 207, .inl zz)), (aStk, .inl (cI, 64, .inl stk)), (aLaid, .inl (cI, 64, .inl laid))]) [0, 1, 2, 3] (by decide) rfl
        have hFc := va_free (wc := [(aM, .inr (5, [.ref aZ, .ref aPast, .int pastMany, .ref aKz, .int isKept, .ref aBuf, .int typed, .ref aStk, .ref aLaid, .int wid, .int hei, .ref aPcs, .ref aTold, .int toldMany, .int spot, .int wrong])), (aZ, .inl (cI, 207, .inl zz)), (aStk, .inl (cI, 64, .inl stk)), (aLaid, .inl (cI, 64, .inl laid))]) hD hS hA [0, 1, 2, 3] rfl
        refine va_calli (va_runV (As := [.int r_11]) (rest := []) ⟨hx, hb, hml, hown, hts⟩ (c_X6_whyNotFold l dC dI cI cC cS aM aZ aPast aKz aBuf aStk aLaid aPcs aTold _ pastMany isKept typed wid hei toldMany spot wrong zz stk laid r_11 hq) (cwV 1 hts gX6_doOne_X6_whyNotFold rfl rfl rfl (by decide +kernel) ⟨Nat.le_of_ble_eq_true rfl, Nat.le_of_ble_eq_true rfl⟩) (gn_preV hPc hK hN hDc (ci := 5) (q0 := 0) rfl rfl) rfl rfl hl.1 rfl (lv_room (Nat.le_of_ble_eq_true rfl)) dX6_doOne_170 ⟨Nat.zero_le _, Nat.zero_le _⟩) hS (fun q _ h => hFc q h) hFc (fun r_12 u t H1 locs ht hvm hq hB hz1 hk1 hS => ?_)
        obtain ⟨wid__13, hei__14, stk__15, laid__16⟩ := u
        obtain ⟨hP1, hK1, hD1⟩ := hB
        rw [ht] at hP1
        try dsimp only at hq
        obtain ⟨hP, hD⟩ := va_join (wr := [(aTold, .inl (cI, 240, .inl told))]) (w1 := [(aM, .inr (5, [.ref aZ, .ref aPast, .int pastMany, .ref aKz, .int isKept, .ref aBuf, .int typed, .ref aStk, .ref aLaid, .int wid__13, .int hei__14, .ref aPcs, .ref aTold, .int toldMany, .int spot, .int wrong])), (aZ, .inl (cI, 207, .inl zz)), (aStk, .inl (cI, 64, .inl stk__15)), (aLaid, .inl (cI, 64, .inl laid__16))]) hP hD [0, 1, 2, 3] [4] rfl rfl (by decide) (by decide) hk1 hFc hP1 hD1
        have hP := hP.sub (ws' := [(aM, .inr (5, [.ref aZ, .ref aPast, .int pastMany, .ref aKz, .int isKept, .ref aBuf, .int typed, .ref aStk, .ref aLaid, .int wid__13, .int hei__14, .ref aPcs, .ref aTold, .int toldMany, .int spot, .int wrong])), (aZ, .inl (cI, 207, .inl zz)), (aStk, .inl (cI, 64, .inl stk__15)), (aLaid, .inl (cI, 64, .inl laid__16)), (aTold, .inl (cI, 240, .inl told))]) [1, 2, 3, 4, 0] rfl
        have hD := hD.sub (ws' := [(aM, .inr (5, [.ref aZ, .ref aPast, .int pastMany, .ref aKz, .int isKept, .ref aBuf, .int typed, .ref aStk, .ref aLaid, .int wid__13, .int hei__14, .ref aPcs, .ref aTold, .int toldMany, .int spot, .int wrong])), (aZ, .inl (cI, 207, .inl zz)), (aStk, .inl (cI, 64, .inl stk__15)), (aLaid, .inl (cI, 64, .inl laid__16)), (aTold, .inl (cI, 240, .inl told))]) [1, 2, 3, 4, 0] (by decide) rfl
        generalize H1 = H at hP hS ⊢
        refine lv_istore (lv' := [(6, .int r_12), (5, .int w5_4), (4, .int w4_3), (3, .int w3_2), (2, .int w2_1), (0, .ref aM), (1, .int x1)]) hx hb dX6_doOne_173 hl (by decide) rfl (fun ls hl => ?_)
        refine lv_iload hx hb dX6_doOne_175 (lv_at hl 0 rfl) ?_
        refine lv_if_ne (tgt := 190) hx hb dX6_doOne_177 (by decide) (fun hc => ?_) (fun hc => ?_)
        · have hq := hq.1 hc
          exact hq _ _ _ hP hD hS (lv_sub hl [0] rfl)
        · have hq := hq.2 hc
          refine lv_aload_n hx hb dX6_doOne_180 rfl (lv_at hl 5 rfl) ?_
          refine lv_iload hx hb dX6_doOne_181 (lv_at hl 1 rfl) ?_
          have hPc := hP.sub (ws' := []) [] rfl
          have hDc := hD.sub (ws' := []) [] (by decide) rfl
          have hFc := va_free (wc := []) hD hS hA [] rfl
          refine va_calli (va_runS (As := [.int w5_4]) (rest := [.ref aM]) ⟨hx, hb, hml, hown, hts⟩ (c_X6_foldBy l dC dI cI cC cS _ w5_4 hq) (va_cwS 1 hts gX6_doOne_X6_foldBy rfl rfl rfl (by decide +kernel) ⟨Nat.le_of_ble_eq_true rfl, Nat.le_of_ble_eq_true rfl⟩) (gn_preS hPc hK hN hDc) rfl rfl hl.1 rfl (lv_room (Nat.le_of_ble_eq_true rfl)) dX6_doOne_183 ⟨Nat.zero_le _, Nat.zero_le _⟩) hS (fun q _ h => hFc q h) hFc (fun r_17 u t H1 locs ht hvm hq hB hz1 hk1 hS => ?_)
          obtain ⟨hP1, hK1, hD1⟩ := hB
          rw [ht] at hP1
          try dsimp only at hq
          obtain ⟨hP, hD⟩ := va_join (wr := [(aM, .inr (5, [.ref aZ, .ref aPast, .int pastMany, .ref aKz, .int isKept, .ref aBuf, .int typed, .ref aStk, .ref aLaid, .int wid__13, .int hei__14, .ref aPcs, .ref aTold, .int toldMany, .int spot, .int wrong])), (aZ, .inl (cI, 207, .inl zz)), (aStk, .inl (cI, 64, .inl stk__15)), (aLaid, .inl (cI, 64, .inl laid__16)), (aTold, .inl (cI, 240, .inl told))]) (w1 := []) hP hD [] [0, 1, 2, 3, 4] rfl rfl (by decide) (by decide) hk1 hFc hP1 hD1
          have hP := hP.sub (ws' := [(aM, .inr (5, [.ref aZ, .ref aPast, .int pastMany, .ref aKz, .int isKept, .ref aBuf, .int typed, .ref aStk, .ref aLaid, .int wid__13, .int hei__14, .ref aPcs, .ref aTold, .int toldMany, .int spot, .int wrong])), (aZ, .inl (cI, 207, .inl zz)), (aStk, .inl (cI, 64, .inl stk__15)), (aLaid, .inl (cI, 64, .inl laid__16)), (aTold, .inl (cI, 240, .inl told))]) [0, 1, 2, 3, 4] rfl
          have hD := hD.sub (ws' := [(aM, .inr (5, [.ref aZ, .ref aPast, .int pastMany, .ref aKz, .int isKept, .ref aBuf, .int typed, .ref aStk, .ref aLaid, .int wid__13, .int hei__14, .ref aPcs, .ref aTold, .int toldMany, .int spot, .int wrong])), (aZ, .inl (cI, 207, .inl zz)), (aStk, .inl (cI, 64, .inl stk__15)), (aLaid, .inl (cI, 64, .inl laid__16)), (aTold, .inl (cI, 240, .inl told))]) [0, 1, 2, 3, 4] (by decide) rfl
          generalize H1 = H at hP hS ⊢
          have hPc := hP.sub (ws' := [(aM, .inr (5, [.ref aZ, .ref aPast, .int pastMany, .ref aKz, .int isKept, .ref aBuf, .int typed, .ref aStk, .ref aLaid, .int wid__13, .int hei__14, .ref aPcs, .ref aTold, .int toldMany, .int spot, .int wrong])), (aZ, .inl (cI, 207, .inl zz)), (aStk, .inl (cI, 64, .inl stk__15)), (aLaid, .inl (cI, 64, .inl laid__16))]) [0, 1, 2, 3] rfl
          have hDc := hD.sub (ws' := [(aM, .inr (5, [.ref aZ, .ref aPast, .int pastMany, .ref aKz, .int isKept, .ref aBuf, .int typed, .ref aStk, .ref aLaid, .int wid__13, .int hei__14, .ref aPcs, .ref aTold, .int toldMany, .int spot, .int wrong])), (aZ, .inl (cI, 207, .inl zz)), (aStk, .inl (cI, 64, .inl stk__15)), (aLaid, .inl (cI, 64, .inl laid__16))]) [0, 1, 2, 3] (by decide) rfl
          have hFc := va_free (wc := [(aM, .inr (5, [.ref aZ, .ref aPast, .int pastMany, .ref aKz, .int isKept, .ref aBuf, .int typed, .ref aStk, .ref aLaid, .int wid__13, .int hei__14, .ref aPcs, .ref aTold, .int toldMany, .int spot, .int wrong])), (aZ, .inl (cI, 207, .inl zz)), (aStk, .inl (cI, 64, .inl stk__15)), (aLaid, .inl (cI, 64, .inl laid__16))]) hD hS hA [0, 1, 2, 3] rfl
          refine va_calli (va_runV (As := [.int r_17]) (rest := []) ⟨hx, hb, hml, hown, hts⟩ (c_X6_folds l dC dI cI cC cS aM aZ aPast aKz aBuf aStk aLaid aPcs aTold _ pastMany isKept typed wid__13 hei__14 toldMany spot wrong zz stk__15 laid__16 r_17 hq) (cwV 1 hts gX6_doOne_X6_folds rfl rfl rfl (by decide +kernel) ⟨Nat.le_of_ble_eq_true rfl, Nat.le_of_ble_eq_true rfl⟩) (gn_preV hPc hK hN hDc (ci := 5) (q0 := 0) rfl rfl) rfl rfl hl.1 rfl (lv_room (Nat.le_of_ble_eq_true rfl)) dX6_doOne_186 ⟨Nat.zero_le _, Nat.zero_le _⟩) hS (fun q _ h => hFc q h) hFc (fun r_18 u t H1 locs ht hvm hq hB hz1 hk1 hS => ?_)
          obtain ⟨wid__19, hei__20, zz__21, stk__22, laid__23⟩ := u
          obtain ⟨hP1, hK1, hD1⟩ := hB
          rw [ht] at hP1
          try dsimp only at hq
          obtain ⟨hP, hD⟩ := va_join (wr := [(aTold, .inl (cI, 240, .inl told))]) (w1 := [(aM, .inr (5, [.ref aZ, .ref aPast, .int pastMany, .ref aKz, .int isKept, .ref aBuf, .int typed, .ref aStk, .ref aLaid, .int wid__19, .int hei__20, .ref aPcs, .ref aTold, .int toldMany, .int spot, .int wrong])), (aZ, .inl (cI, 207, .inl zz__21)), (aStk, .inl (cI, 64, .inl stk__22)), (aLaid, .inl (cI, 64, .inl laid__23))]) hP hD [0, 1, 2, 3] [4] rfl rfl (by decide) (by decide) hk1 hFc hP1 hD1
          have hP := hP.sub (ws' := [(aM, .inr (5, [.ref aZ, .ref aPast, .int pastMany, .ref aKz, .int isKept, .ref aBuf, .int typed, .ref aStk, .ref aLaid, .int wid__19, .int hei__20, .ref aPcs, .ref aTold, .int toldMany, .int spot, .int wrong])), (aZ, .inl (cI, 207, .inl zz__21)), (aStk, .inl (cI, 64, .inl stk__22)), (aLaid, .inl (cI, 64, .inl laid__23)), (aTold, .inl (cI, 240, .inl told))]) [1, 2, 3, 4, 0] rfl
          have hD := hD.sub (ws' := [(aM, .inr (5, [.ref aZ, .ref aPast, .int pastMany, .ref aKz, .int isKept, .ref aBuf, .int typed, .ref aStk, .ref aLaid, .int wid__19, .int hei__20, .ref aPcs, .ref aTold, .int toldMany, .int spot, .int wrong])), (aZ, .inl (cI, 207, .inl zz__21)), (aStk, .inl (cI, 64, .inl stk__22)), (aLaid, .inl (cI, 64, .inl laid__23)), (aTold, .inl (cI, 240, .inl told))]) [1, 2, 3, 4, 0] (by decide) rfl
          generalize H1 = H at hP hS ⊢
          refine lv_pop hx hb dX6_doOne_189 rfl ?_
          exact hq _ _ _ hP hD hS (lv_sub hl [0] rfl)
      · have hq := hq.2 hc
        refine lv_aload_n hx hb dX6_doOne_137 rfl (lv_at hl 5 rfl) ?_
        refine lv_iload_n hx hb dX6_doOne_138 rfl (lv_at hl 4 rfl) ?_
        refine lv_iload_n hx hb dX6_doOne_139 rfl (lv_at hl 3 rfl) ?_
        refine lv_iload hx hb dX6_doOne_140 (lv_at hl 2 rfl) ?_
        have hPc := hP.sub (ws' := [(aM, .inr (5, [.ref aZ, .ref aPast, .int pastMany, .ref aKz, .int isKept, .ref aBuf, .int typed, .ref aStk, .ref aLaid, .int wid, .int hei, .ref aPcs, .ref aTold, .int toldMany, .int spot, .int wrong])), (aZ, .inl (cI, 207, .inl zz)), (aStk, .inl (cI, 64, .inl stk)), (aLaid, .inl (cI, 64, .inl laid))]) [0, 1, 2, 3] rfl
        have hDc := hD.sub (ws' := [(aM, .inr (5, [.ref aZ, .ref aPast, .int pastMany, .ref aKz, .int isKept, .ref aBuf, .int typed, .ref aStk, .ref aLaid, .int wid, .int hei, .ref aPcs, .ref aTold, .int toldMany, .int spot, .int wrong])), (aZ, .inl (cI, 207, .inl zz)), (aStk, .inl (cI, 64, .inl stk)), (aLaid, .inl (cI, 64, .inl laid))]) [0, 1, 2, 3] (by decide) rfl
        have hFc := va_free (wc := [(aM, .inr (5, [.ref aZ, .ref aPast, .int pastMany, .ref aKz, .int isKept, .ref aBuf, .int typed, .ref aStk, .ref aLaid, .int wid, .int hei, .ref aPcs, .ref aTold, .int toldMany, .int spot, .int wrong])), (aZ, .inl (cI, 207, .inl zz)), (aStk, .inl (cI, 64, .inl stk)), (aLaid, .inl (cI, 64, .inl laid))]) hD hS hA [0, 1, 2, 3] rfl
        refine va_calli (va_runV (As := [.int w2_1, .int w3_2, .int w4_3]) (rest := []) ⟨hx, hb, hml, hown, hts⟩ (c_X6_whyNotInk l dC dI cI cC cS aM aZ aPast aKz aBuf aStk aLaid aPcs aTold _ pastMany isKept typed wid hei toldMany spot wrong zz stk laid w2_1 w3_2 w4_3 hq) (cwV 3 hts gX6_doOne_X6_whyNotInk rfl rfl rfl (by decide +kernel) ⟨Nat.le_of_ble_eq_true rfl, Nat.le_of_ble_eq_true rfl⟩) (gn_preV hPc hK hN hDc (ci := 5) (q0 := 0) rfl rfl) rfl rfl hl.1 rfl (lv_room (Nat.le_of_ble_eq_true rfl)) dX6_doOne_142 ⟨Nat.zero_le _, Nat.zero_le _⟩) hS (fun q _ h => hFc q h) hFc (fun r_24 u t H1 locs ht hvm hq hB hz1 hk1 hS => ?_)
        obtain ⟨wid__25, hei__26, stk__27, laid__28⟩ := u
        obtain ⟨hP1, hK1, hD1⟩ := hB
        rw [ht] at hP1
        try dsimp only at hq
        obtain ⟨hP, hD⟩ := va_join (wr := [(aTold, .inl (cI, 240, .inl told))]) (w1 := [(aM, .inr (5, [.ref aZ, .ref aPast, .int pastMany, .ref aKz, .int isKept, .ref aBuf, .int typed, .ref aStk, .ref aLaid, .int wid__25, .int hei__26, .ref aPcs, .ref aTold, .int toldMany, .int spot, .int wrong])), (aZ, .inl (cI, 207, .inl zz)), (aStk, .inl (cI, 64, .inl stk__27)), (aLaid, .inl (cI, 64, .inl laid__28))]) hP hD [0, 1, 2, 3] [4] rfl rfl (by decide) (by decide) hk1 hFc hP1 hD1
        have hP := hP.sub (ws' := [(aM, .inr (5, [.ref aZ, .ref aPast, .int pastMany, .ref aKz, .int isKept, .ref aBuf, .int typed, .ref aStk, .ref aLaid, .int wid__25, .int hei__26, .ref aPcs, .ref aTold, .int toldMany, .int spot, .int wrong])), (aZ, .inl (cI, 207, .inl zz)), (aStk, .inl (cI, 64, .inl stk__27)), (aLaid, .inl (cI, 64, .inl laid__28)), (aTold, .inl (cI, 240, .inl told))]) [1, 2, 3, 4, 0] rfl
        have hD := hD.sub (ws' := [(aM, .inr (5, [.ref aZ, .ref aPast, .int pastMany, .ref aKz, .int isKept, .ref aBuf, .int typed, .ref aStk, .ref aLaid, .int wid__25, .int hei__26, .ref aPcs, .ref aTold, .int toldMany, .int spot, .int wrong])), (aZ, .inl (cI, 207, .inl zz)), (aStk, .inl (cI, 64, .inl stk__27)), (aLaid, .inl (cI, 64, .inl laid__28)), (aTold, .inl (cI, 240, .inl told))]) [1, 2, 3, 4, 0] (by decide) rfl
        generalize H1 = H at hP hS ⊢
        refine lv_istore (lv' := [(6, .int r_24), (5, .int w5_4), (4, .int w4_3), (3, .int w3_2), (2, .int w2_1), (0, .ref aM), (1, .int x1)]) hx hb dX6_doOne_145 hl (by decide) rfl (fun ls hl => ?_)
        refine lv_iload hx hb dX6_doOne_147 (lv_at hl 0 rfl) ?_
        refine lv_if_ne (tgt := 190) hx hb dX6_doOne_149 (by decide) (fun hc => ?_) (fun hc => ?_)
        · have hq := hq.1 hc
          exact hq _ _ _ hP hD hS (lv_sub hl [0] rfl)
        · have hq := hq.2 hc
          refine lv_aload_n hx hb dX6_doOne_152 rfl (lv_at hl 5 rfl) ?_
          refine lv_iload_n hx hb dX6_doOne_153 rfl (lv_at hl 4 rfl) ?_
          refine lv_iload_n hx hb dX6_doOne_154 rfl (lv_at hl 3 rfl) ?_
          refine lv_iload hx hb dX6_doOne_155 (lv_at hl 2 rfl) ?_
          have hPc := hP.sub (ws' := [(aM, .inr (5, [.ref aZ, .ref aPast, .int pastMany, .ref aKz, .int isKept, .ref aBuf, .int typed, .ref aStk, .ref aLaid, .int wid__25, .int hei__26, .ref aPcs, .ref aTold, .int toldMany, .int spot, .int wrong])), (aZ, .inl (cI, 207, .inl zz)), (aStk, .inl (cI, 64, .inl stk__27)), (aLaid, .inl (cI, 64, .inl laid__28))]) [0, 1, 2, 3] rfl
          have hDc := hD.sub (ws' := [(aM, .inr (5, [.ref aZ, .ref aPast, .int pastMany, .ref aKz, .int isKept, .ref aBuf, .int typed, .ref aStk, .ref aLaid, .int wid__25, .int hei__26, .ref aPcs, .ref aTold, .int toldMany, .int spot, .int wrong])), (aZ, .inl (cI, 207, .inl zz)), (aStk, .inl (cI, 64, .inl stk__27)), (aLaid, .inl (cI, 64, .inl laid__28))]) [0, 1, 2, 3] (by decide) rfl
          have hFc := va_free (wc := [(aM, .inr (5, [.ref aZ, .ref aPast, .int pastMany, .ref aKz, .int isKept, .ref aBuf, .int typed, .ref aStk, .ref aLaid, .int wid__25, .int hei__26, .ref aPcs, .ref aTold, .int toldMany, .int spot, .int wrong])), (aZ, .inl (cI, 207, .inl zz)), (aStk, .inl (cI, 64, .inl stk__27)), (aLaid, .inl (cI, 64, .inl laid__28))]) hD hS hA [0, 1, 2, 3] rfl
          refine va_calli (va_runV (As := [.int w2_1, .int w3_2, .int w4_3]) (rest := []) ⟨hx, hb, hml, hown, hts⟩ (c_X6_inks l dC dI cI cC cS aM aZ aPast aKz aBuf aStk aLaid aPcs aTold _ pastMany isKept typed wid__25 hei__26 toldMany spot wrong zz stk__27 laid__28 w2_1 w3_2 w4_3 hq) (cwV 3 hts gX6_doOne_X6_inks rfl rfl rfl (by decide +kernel) ⟨Nat.le_of_ble_eq_true rfl, Nat.le_of_ble_eq_true rfl⟩) (gn_preV hPc hK hN hDc (ci := 5) (q0 := 0) rfl rfl) rfl rfl hl.1 rfl (lv_room (Nat.le_of_ble_eq_true rfl)) dX6_doOne_157 ⟨Nat.zero_le _, Nat.zero_le _⟩) hS (fun q _ h => hFc q h) hFc (fun r_29 u t H1 locs ht hvm hq hB hz1 hk1 hS => ?_)
          obtain ⟨wid__30, hei__31, zz__32, stk__33, laid__34⟩ := u
          obtain ⟨hP1, hK1, hD1⟩ := hB
          rw [ht] at hP1
          try dsimp only at hq
          obtain ⟨hP, hD⟩ := va_join (wr := [(aTold, .inl (cI, 240, .inl told))]) (w1 := [(aM, .inr (5, [.ref aZ, .ref aPast, .int pastMany, .ref aKz, .int isKept, .ref aBuf, .int typed, .ref aStk, .ref aLaid, .int wid__30, .int hei__31, .ref aPcs, .ref aTold, .int toldMany, .int spot, .int wrong])), (aZ, .inl (cI, 207, .inl zz__32)), (aStk, .inl (cI, 64, .inl stk__33)), (aLaid, .inl (cI, 64, .inl laid__34))]) hP hD [0, 1, 2, 3] [4] rfl rfl (by decide) (by decide) hk1 hFc hP1 hD1
          have hP := hP.sub (ws' := [(aM, .inr (5, [.ref aZ, .ref aPast, .int pastMany, .ref aKz, .int isKept, .ref aBuf, .int typed, .ref aStk, .ref aLaid, .int wid__30, .int hei__31, .ref aPcs, .ref aTold, .int toldMany, .int spot, .int wrong])), (aZ, .inl (cI, 207, .inl zz__32)), (aStk, .inl (cI, 64, .inl stk__33)), (aLaid, .inl (cI, 64, .inl laid__34)), (aTold, .inl (cI, 240, .inl told))]) [1, 2, 3, 4, 0] rfl
          have hD := hD.sub (ws' := [(aM, .inr (5, [.ref aZ, .ref aPast, .int pastMany, .ref aKz, .int isKept, .ref aBuf, .int typed, .ref aStk, .ref aLaid, .int wid__30, .int hei__31, .ref aPcs, .ref aTold, .int toldMany, .int spot, .int wrong])), (aZ, .inl (cI, 207, .inl zz__32)), (aStk, .inl (cI, 64, .inl stk__33)), (aLaid, .inl (cI, 64, .inl laid__34)), (aTold, .inl (cI, 240, .inl told))]) [1, 2, 3, 4, 0] (by decide) rfl
          generalize H1 = H at hP hS ⊢
          refine lv_pop hx hb dX6_doOne_160 rfl ?_
          refine lv_goto (tgt := 190) hx hb dX6_doOne_161 (by decide) ?_
          exact hq _ _ _ hP hD hS (lv_sub hl [0] rfl)
    · have hq := hq.2 hc
      refine lv_aload_n hx hb dX6_doOne_83 rfl (lv_at hl 5 rfl) ?_
      have hPc := hP.sub (ws' := [(aM, .inr (5, [.ref aZ, .ref aPast, .int pastMany, .ref aKz, .int isKept, .ref aBuf, .int typed, .ref aStk, .ref aLaid, .int wid, .int hei, .ref aPcs, .ref aTold, .int toldMany, .int spot, .int wrong])), (aZ, .inl (cI, 207, .inl zz)), (aStk, .inl (cI, 64, .inl stk)), (aLaid, .inl (cI, 64, .inl laid))]) [0, 1, 2, 3] rfl
      have hDc := hD.sub (ws' := [(aM, .inr (5, [.ref aZ, .ref aPast, .int pastMany, .ref aKz, .int isKept, .ref aBuf, .int typed, .ref aStk, .ref aLaid, .int wid, .int hei, .ref aPcs, .ref aTold, .int toldMany, .int spot, .int wrong])), (aZ, .inl (cI, 207, .inl zz)), (aStk, .inl (cI, 64, .inl stk)), (aLaid, .inl (cI, 64, .inl laid))]) [0, 1, 2, 3] (by decide) rfl
      have hFc := va_free (wc := [(aM, .inr (5, [.ref aZ, .ref aPast, .int pastMany, .ref aKz, .int isKept, .ref aBuf, .int typed, .ref aStk, .ref aLaid, .int wid, .int hei, .ref aPcs, .ref aTold, .int toldMany, .int spot, .int wrong])), (aZ, .inl (cI, 207, .inl zz)), (aStk, .inl (cI, 64, .inl stk)), (aLaid, .inl (cI, 64, .inl laid))]) hD hS hA [0, 1, 2, 3] rfl
      refine va_callv (va_runV (As := []) (rest := []) ⟨hx, hb, hml, hown, hts⟩ (c_X6_layNow l dC dI cI cC cS aM aZ aPast aKz aBuf aStk aLaid aPcs aTold _ pastMany isKept typed wid hei toldMany spot wrong zz stk laid hq) (cwV 0 hts gX6_doOne_X6_layNow rfl rfl rfl (by decide +kernel) ⟨Nat.le_of_ble_eq_true rfl, Nat.le_of_ble_eq_true rfl⟩) (gn_preV hPc hK hN hDc (ci := 5) (q0 := 0) rfl rfl) rfl rfl hl.1 rfl (lv_room (Nat.le_of_ble_eq_true rfl)) dX6_doOne_84 ⟨Nat.zero_le _, Nat.zero_le _⟩) hS (fun q _ h => hFc q h) hFc (fun u t H1 locs ht hvm hq hB hz1 hk1 hS => ?_)
      obtain ⟨wid__35, hei__36, stk__37, laid__38⟩ := u
      obtain ⟨hP1, hK1, hD1⟩ := hB
      rw [ht] at hP1
      try dsimp only at hq
      obtain ⟨hP, hD⟩ := va_join (wr := [(aTold, .inl (cI, 240, .inl told))]) (w1 := [(aM, .inr (5, [.ref aZ, .ref aPast, .int pastMany, .ref aKz, .int isKept, .ref aBuf, .int typed, .ref aStk, .ref aLaid, .int wid__35, .int hei__36, .ref aPcs, .ref aTold, .int toldMany, .int spot, .int wrong])), (aZ, .inl (cI, 207, .inl zz)), (aStk, .inl (cI, 64, .inl stk__37)), (aLaid, .inl (cI, 64, .inl laid__38))]) hP hD [0, 1, 2, 3] [4] rfl rfl (by decide) (by decide) hk1 hFc hP1 hD1
      have hP := hP.sub (ws' := [(aM, .inr (5, [.ref aZ, .ref aPast, .int pastMany, .ref aKz, .int isKept, .ref aBuf, .int typed, .ref aStk, .ref aLaid, .int wid__35, .int hei__36, .ref aPcs, .ref aTold, .int toldMany, .int spot, .int wrong])), (aZ, .inl (cI, 207, .inl zz)), (aStk, .inl (cI, 64, .inl stk__37)), (aLaid, .inl (cI, 64, .inl laid__38)), (aTold, .inl (cI, 240, .inl told))]) [1, 2, 3, 4, 0] rfl
      have hD := hD.sub (ws' := [(aM, .inr (5, [.ref aZ, .ref aPast, .int pastMany, .ref aKz, .int isKept, .ref aBuf, .int typed, .ref aStk, .ref aLaid, .int wid__35, .int hei__36, .ref aPcs, .ref aTold, .int toldMany, .int spot, .int wrong])), (aZ, .inl (cI, 207, .inl zz)), (aStk, .inl (cI, 64, .inl stk__37)), (aLaid, .inl (cI, 64, .inl laid__38)), (aTold, .inl (cI, 240, .inl told))]) [1, 2, 3, 4, 0] (by decide) rfl
      generalize H1 = H at hP hS ⊢
      refine lv_iload hx hb dX6_doOne_87 (lv_at hl 2 rfl) ?_
      have hq := hq (fun (t_39 : Int32) => ∀ (H : Heap) (locs : List Loc) (ls : Array Slot), va_P (dC, dI) vwCl [(aM, .inr (5, [.ref aZ, .ref aPast, .int pastMany, .ref aKz, .int isKept, .ref aBuf, .int typed, .ref aStk, .ref aLaid, .int wid__35, .int hei__36, .ref aPcs, .ref aTold, .int toldMany, .int spot, .int wrong])), (aZ, .inl (cI, 207, .inl zz)), (aStk, .inl (cI, 64, .inl stk__37)), (aLaid, .inl (cI, 64, .inl laid__38)), (aTold, .inl (cI, 240, .inl told))] H → va_D A [(aM, .inr (5, [.ref aZ, .ref aPast, .int pastMany, .ref aKz, .int isKept, .ref aBuf, .int typed, .ref aStk, .ref aLaid, .int wid__35, .int hei__36, .ref aPcs, .ref aTold, .int toldMany, .int spot, .int wrong])), (aZ, .inl (cI, 207, .inl zz)), (aStk, .inl (cI, 64, .inl stk__37)), (aLaid, .inl (cI, 64, .inl laid__38)), (aTold, .inl (cI, 240, .inl told))] → va_S A s.heap H locs → lv_has ls 8 [(0, .ref aM), (2, .int w2_1), (3, .int w3_2)] → W p l e ({ frames := 6, cells := 0, slots := 0, locals := 143 } : Room) s m ([.ref aM, .int x1] : List Value).toArray below meth c H locs 0 0 Q (F0 m 101 ls [.int t_39])) (by
        intro t_39 hq H locs ls hP hD hS hl
        refine lv_istore (lv' := [(7, .int t_39), (0, .ref aM), (2, .int w2_1), (3, .int w3_2)]) hx hb dX6_doOne_101 hl (by decide) rfl (fun ls hl => ?_)
        refine lv_aload_n hx hb dX6_doOne_103 rfl (lv_at hl 1 rfl) ?_
        refine lv_iload_n hx hb dX6_doOne_104 rfl (lv_at hl 2 rfl) ?_
        refine lv_iload_n hx hb dX6_doOne_105 rfl (lv_at hl 3 rfl) ?_
        refine lv_iload hx hb dX6_doOne_106 (lv_at hl 0 rfl) ?_
        have hPc := hP.sub (ws' := [(aM, .inr (5, [.ref aZ, .ref aPast, .int pastMany, .ref aKz, .int isKept, .ref aBuf, .int typed, .ref aStk, .ref aLaid, .int wid__35, .int hei__36, .ref aPcs, .ref aTold, .int toldMany, .int spot, .int wrong])), (aZ, .inl (cI, 207, .inl zz)), (aStk, .inl (cI, 64, .inl stk__37)), (aLaid, .inl (cI, 64, .inl laid__38))]) [0, 1, 2, 3] rfl
        have hDc := hD.sub (ws' := [(aM, .inr (5, [.ref aZ, .ref aPast, .int pastMany, .ref aKz, .int isKept, .ref aBuf, .int typed, .ref aStk, .ref aLaid, .int wid__35, .int hei__36, .ref aPcs, .ref aTold, .int toldMany, .int spot, .int wrong])), (aZ, .inl (cI, 207, .inl zz)), (aStk, .inl (cI, 64, .inl stk__37)), (aLaid, .inl (cI, 64, .inl laid__38))]) [0, 1, 2, 3] (by decide) rfl
        have hFc := va_free (wc := [(aM, .inr (5, [.ref aZ, .ref aPast, .int pastMany, .ref aKz, .int isKept, .ref aBuf, .int typed, .ref aStk, .ref aLaid, .int wid__35, .int hei__36, .ref aPcs, .ref aTold, .int toldMany, .int spot, .int wrong])), (aZ, .inl (cI, 207, .inl zz)), (aStk, .inl (cI, 64, .inl stk__37)), (aLaid, .inl (cI, 64, .inl laid__38))]) hD hS hA [0, 1, 2, 3] rfl
        refine va_calli (va_runV (As := [.int w2_1, .int w3_2, .int t_39]) (rest := []) ⟨hx, hb, hml, hown, hts⟩ (c_X6_whyNotPunch l dC dI cI cC cS aM aZ aPast aKz aBuf aStk aLaid aPcs aTold _ pastMany isKept typed wid__35 hei__36 toldMany spot wrong zz stk__37 laid__38 w2_1 w3_2 t_39 hq) (cwV 3 hts gX6_doOne_X6_whyNotPunch rfl rfl rfl (by decide +kernel) ⟨Nat.le_of_ble_eq_true rfl, Nat.le_of_ble_eq_true rfl⟩) (gn_preV hPc hK hN hDc (ci := 5) (q0 := 0) rfl rfl) rfl rfl hl.1 rfl (lv_room (Nat.le_of_ble_eq_true rfl)) dX6_doOne_108 ⟨Nat.zero_le _, Nat.zero_le _⟩) hS (fun q _ h => hFc q h) hFc (fun r_40 u t H1 locs ht hvm hq hB hz1 hk1 hS => ?_)
        obtain ⟨wid__41, hei__42, stk__43, laid__44⟩ := u
        obtain ⟨hP1, hK1, hD1⟩ := hB
        rw [ht] at hP1
        try dsimp only at hq
        obtain ⟨hP, hD⟩ := va_join (wr := [(aTold, .inl (cI, 240, .inl told))]) (w1 := [(aM, .inr (5, [.ref aZ, .ref aPast, .int pastMany, .ref aKz, .int isKept, .ref aBuf, .int typed, .ref aStk, .ref aLaid, .int wid__41, .int hei__42, .ref aPcs, .ref aTold, .int toldMany, .int spot, .int wrong])), (aZ, .inl (cI, 207, .inl zz)), (aStk, .inl (cI, 64, .inl stk__43)), (aLaid, .inl (cI, 64, .inl laid__44))]) hP hD [0, 1, 2, 3] [4] rfl rfl (by decide) (by decide) hk1 hFc hP1 hD1
        have hP := hP.sub (ws' := [(aM, .inr (5, [.ref aZ, .ref aPast, .int pastMany, .ref aKz, .int isKept, .ref aBuf, .int typed, .ref aStk, .ref aLaid, .int wid__41, .int hei__42, .ref aPcs, .ref aTold, .int toldMany, .int spot, .int wrong])), (aZ, .inl (cI, 207, .inl zz)), (aStk, .inl (cI, 64, .inl stk__43)), (aLaid, .inl (cI, 64, .inl laid__44)), (aTold, .inl (cI, 240, .inl told))]) [1, 2, 3, 4, 0] rfl
        have hD := hD.sub (ws' := [(aM, .inr (5, [.ref aZ, .ref aPast, .int pastMany, .ref aKz, .int isKept, .ref aBuf, .int typed, .ref aStk, .ref aLaid, .int wid__41, .int hei__42, .ref aPcs, .ref aTold, .int toldMany, .int spot, .int wrong])), (aZ, .inl (cI, 207, .inl zz)), (aStk, .inl (cI, 64, .inl stk__43)), (aLaid, .inl (cI, 64, .inl laid__44)), (aTold, .inl (cI, 240, .inl told))]) [1, 2, 3, 4, 0] (by decide) rfl
        generalize H1 = H at hP hS ⊢
        refine lv_istore (lv' := [(6, .int r_40), (7, .int t_39), (0, .ref aM), (2, .int w2_1), (3, .int w3_2)]) hx hb dX6_doOne_111 hl (by decide) rfl (fun ls hl => ?_)
        refine lv_iload hx hb dX6_doOne_113 (lv_at hl 0 rfl) ?_
        have hq := hq (fun (wid__45 : Int32) (hei__46 : Int32) (zz__47 : Nat → Int32) (stk__48 : Nat → Int32) (laid__49 : Nat → Int32) => ∀ (H : Heap) (locs : List Loc) (ls : Array Slot), va_P (dC, dI) vwCl [(aM, .inr (5, [.ref aZ, .ref aPast, .int pastMany, .ref aKz, .int isKept, .ref aBuf, .int typed, .ref aStk, .ref aLaid, .int wid__45, .int hei__46, .ref aPcs, .ref aTold, .int toldMany, .int spot, .int wrong])), (aZ, .inl (cI, 207, .inl zz__47)), (aStk, .inl (cI, 64, .inl stk__48)), (aLaid, .inl (cI, 64, .inl laid__49)), (aTold, .inl (cI, 240, .inl told))] H → va_D A [(aM, .inr (5, [.ref aZ, .ref aPast, .int pastMany, .ref aKz, .int isKept, .ref aBuf, .int typed, .ref aStk, .ref aLaid, .int wid__45, .int hei__46, .ref aPcs, .ref aTold, .int toldMany, .int spot, .int wrong])), (aZ, .inl (cI, 207, .inl zz__47)), (aStk, .inl (cI, 64, .inl stk__48)), (aLaid, .inl (cI, 64, .inl laid__49)), (aTold, .inl (cI, 240, .inl told))] → va_S A s.heap H locs → lv_has ls 8 [(6, .int r_40)] → W p l e ({ frames := 6, cells := 0, slots := 0, locals := 143 } : Room) s m ([.ref aM, .int x1] : List Value).toArray below meth c H locs 0 0 Q (F0 m 127 ls [])) (by
          intro wid__45 hei__46 zz__47 stk__48 laid__49 hq H locs ls hP hD hS hl
          refine lv_goto (tgt := 190) hx hb dX6_doOne_127 (by decide) ?_
          exact hq _ _ _ hP hD hS (lv_sub hl [0] rfl))
        refine lv_if_ne (tgt := 127) hx hb dX6_doOne_115 (by decide) (fun hc => ?_) (fun hc => ?_)
        · have hq := hq.1 hc
          exact hq _ _ _ hP hD hS (lv_sub hl [0] rfl)
        · have hq := hq.2 hc
          refine lv_aload_n hx hb dX6_doOne_118 rfl (lv_at hl 2 rfl) ?_
          refine lv_iload_n hx hb dX6_doOne_119 rfl (lv_at hl 3 rfl) ?_
          refine lv_iload_n hx hb dX6_doOne_120 rfl (lv_at hl 4 rfl) ?_
          refine lv_iload hx hb dX6_doOne_121 (lv_at hl 1 rfl) ?_
          have hPc := hP.sub (ws' := [(aM, .inr (5, [.ref aZ, .ref aPast, .int pastMany, .ref aKz, .int isKept, .ref aBuf, .int typed, .ref aStk, .ref aLaid, .int wid__41, .int hei__42, .ref aPcs, .ref aTold, .int toldMany, .int spot, .int wrong])), (aZ, .inl (cI, 207, .inl zz)), (aStk, .inl (cI, 64, .inl stk__43)), (aLaid, .inl (cI, 64, .inl laid__44))]) [0, 1, 2, 3] rfl
          have hDc := hD.sub (ws' := [(aM, .inr (5, [.ref aZ, .ref aPast, .int pastMany, .ref aKz, .int isKept, .ref aBuf, .int typed, .ref aStk, .ref aLaid, .int wid__41, .int hei__42, .ref aPcs, .ref aTold, .int toldMany, .int spot, .int wrong])), (aZ, .inl (cI, 207, .inl zz)), (aStk, .inl (cI, 64, .inl stk__43)), (aLaid, .inl (cI, 64, .inl laid__44))]) [0, 1, 2, 3] (by decide) rfl
          have hFc := va_free (wc := [(aM, .inr (5, [.ref aZ, .ref aPast, .int pastMany, .ref aKz, .int isKept, .ref aBuf, .int typed, .ref aStk, .ref aLaid, .int wid__41, .int hei__42, .ref aPcs, .ref aTold, .int toldMany, .int spot, .int wrong])), (aZ, .inl (cI, 207, .inl zz)), (aStk, .inl (cI, 64, .inl stk__43)), (aLaid, .inl (cI, 64, .inl laid__44))]) hD hS hA [0, 1, 2, 3] rfl
          refine va_calli (va_runV (As := [.int w2_1, .int w3_2, .int t_39]) (rest := []) ⟨hx, hb, hml, hown, hts⟩ (c_X6_makesHoles l dC dI cI cC cS aM aZ aPast aKz aBuf aStk aLaid aPcs aTold _ pastMany isKept typed wid__41 hei__42 toldMany spot wrong zz stk__43 laid__44 w2_1 w3_2 t_39 hq) (cwV 3 hts gX6_doOne_X6_makesHoles rfl rfl rfl (by decide +kernel) ⟨Nat.le_of_ble_eq_true rfl, Nat.le_of_ble_eq_true rfl⟩) (gn_preV hPc hK hN hDc (ci := 5) (q0 := 0) rfl rfl) rfl rfl hl.1 rfl (lv_room (Nat.le_of_ble_eq_true rfl)) dX6_doOne_123 ⟨Nat.zero_le _, Nat.zero_le _⟩) hS (fun q _ h => hFc q h) hFc (fun r_50 u t H1 locs ht hvm hq hB hz1 hk1 hS => ?_)
          obtain ⟨wid__51, hei__52, zz__53, stk__54, laid__55⟩ := u
          obtain ⟨hP1, hK1, hD1⟩ := hB
          rw [ht] at hP1
          try dsimp only at hq
          obtain ⟨hP, hD⟩ := va_join (wr := [(aTold, .inl (cI, 240, .inl told))]) (w1 := [(aM, .inr (5, [.ref aZ, .ref aPast, .int pastMany, .ref aKz, .int isKept, .ref aBuf, .int typed, .ref aStk, .ref aLaid, .int wid__51, .int hei__52, .ref aPcs, .ref aTold, .int toldMany, .int spot, .int wrong])), (aZ, .inl (cI, 207, .inl zz__53)), (aStk, .inl (cI, 64, .inl stk__54)), (aLaid, .inl (cI, 64, .inl laid__55))]) hP hD [0, 1, 2, 3] [4] rfl rfl (by decide) (by decide) hk1 hFc hP1 hD1
          have hP := hP.sub (ws' := [(aM, .inr (5, [.ref aZ, .ref aPast, .int pastMany, .ref aKz, .int isKept, .ref aBuf, .int typed, .ref aStk, .ref aLaid, .int wid__51, .int hei__52, .ref aPcs, .ref aTold, .int toldMany, .int spot, .int wrong])), (aZ, .inl (cI, 207, .inl zz__53)), (aStk, .inl (cI, 64, .inl stk__54)), (aLaid, .inl (cI, 64, .inl laid__55)), (aTold, .inl (cI, 240, .inl told))]) [1, 2, 3, 4, 0] rfl
          have hD := hD.sub (ws' := [(aM, .inr (5, [.ref aZ, .ref aPast, .int pastMany, .ref aKz, .int isKept, .ref aBuf, .int typed, .ref aStk, .ref aLaid, .int wid__51, .int hei__52, .ref aPcs, .ref aTold, .int toldMany, .int spot, .int wrong])), (aZ, .inl (cI, 207, .inl zz__53)), (aStk, .inl (cI, 64, .inl stk__54)), (aLaid, .inl (cI, 64, .inl laid__55)), (aTold, .inl (cI, 240, .inl told))]) [1, 2, 3, 4, 0] (by decide) rfl
          generalize H1 = H at hP hS ⊢
          refine lv_pop hx hb dX6_doOne_126 rfl ?_
          exact hq _ _ _ hP hD hS (lv_sub hl [0] rfl))
      refine lv_if_ne (tgt := 99) hx hb dX6_doOne_89 (by decide) (fun hc => ?_) (fun hc => ?_)
      · have hq := hq.1 hc
        refine lv_iload hx hb dX6_doOne_99 (lv_at hl 2 rfl) ?_
        exact hq _ _ _ hP hD hS (lv_sub hl [5, 4, 3] rfl)
      · have hq := hq.2 hc
        refine lv_aload_n hx hb dX6_doOne_92 rfl (lv_at hl 5 rfl) ?_
        have hPc := hP.sub (ws' := [(aM, .inr (5, [.ref aZ, .ref aPast, .int pastMany, .ref aKz, .int isKept, .ref aBuf, .int typed, .ref aStk, .ref aLaid, .int wid__35, .int hei__36, .ref aPcs, .ref aTold, .int toldMany, .int spot, .int wrong]))]) [0] rfl
        have hDc := hD.sub (ws' := [(aM, .inr (5, [.ref aZ, .ref aPast, .int pastMany, .ref aKz, .int isKept, .ref aBuf, .int typed, .ref aStk, .ref aLaid, .int wid__35, .int hei__36, .ref aPcs, .ref aTold, .int toldMany, .int spot, .int wrong]))]) [0] (by decide) rfl
        have hFc := va_free (wc := [(aM, .inr (5, [.ref aZ, .ref aPast, .int pastMany, .ref aKz, .int isKept, .ref aBuf, .int typed, .ref aStk, .ref aLaid, .int wid__35, .int hei__36, .ref aPcs, .ref aTold, .int toldMany, .int spot, .int wrong]))]) hD hS hA [0] rfl
        refine va_calli (va_runV (As := []) (rest := []) ⟨hx, hb, hml, hown, hts⟩ (c_X6_layers l dC dI cI cC cS aM aZ aPast aKz aBuf aStk aLaid aPcs aTold _ pastMany isKept typed wid__35 hei__36 toldMany spot wrong hq) (cwV 0 hts gX6_doOne_X6_layers rfl rfl rfl (by decide +kernel) ⟨Nat.le_of_ble_eq_true rfl, Nat.le_of_ble_eq_true rfl⟩) (gn_preV hPc hK hN hDc (ci := 5) (q0 := 0) rfl rfl) rfl rfl hl.1 rfl (lv_room (Nat.le_of_ble_eq_true rfl)) dX6_doOne_93 ⟨Nat.zero_le _, Nat.zero_le _⟩) hS (fun q _ h => hFc q h) hFc (fun r_56 u t H1 locs ht hvm hq hB hz1 hk1 hS => ?_)
        obtain ⟨hP1, hK1, hD1⟩ := hB
        rw [ht] at hP1
        try dsimp only at hq
        obtain ⟨hP, hD⟩ := va_join (wr := [(aZ, .inl (cI, 207, .inl zz)), (aStk, .inl (cI, 64, .inl stk__37)), (aLaid, .inl (cI, 64, .inl laid__38)), (aTold, .inl (cI, 240, .inl told))]) (w1 := [(aM, .inr (5, [.ref aZ, .ref aPast, .int pastMany, .ref aKz, .int isKept, .ref aBuf, .int typed, .ref aStk, .ref aLaid, .int wid__35, .int hei__36, .ref aPcs, .ref aTold, .int toldMany, .int spot, .int wrong]))]) hP hD [0] [1, 2, 3, 4] rfl rfl (by decide) (by decide) hk1 hFc hP1 hD1
        have hP := hP.sub (ws' := [(aM, .inr (5, [.ref aZ, .ref aPast, .int pastMany, .ref aKz, .int isKept, .ref aBuf, .int typed, .ref aStk, .ref aLaid, .int wid__35, .int hei__36, .ref aPcs, .ref aTold, .int toldMany, .int spot, .int wrong])), (aZ, .inl (cI, 207, .inl zz)), (aStk, .inl (cI, 64, .inl stk__37)), (aLaid, .inl (cI, 64, .inl laid__38)), (aTold, .inl (cI, 240, .inl told))]) [4, 0, 1, 2, 3] rfl
        have hD := hD.sub (ws' := [(aM, .inr (5, [.ref aZ, .ref aPast, .int pastMany, .ref aKz, .int isKept, .ref aBuf, .int typed, .ref aStk, .ref aLaid, .int wid__35, .int hei__36, .ref aPcs, .ref aTold, .int toldMany, .int spot, .int wrong])), (aZ, .inl (cI, 207, .inl zz)), (aStk, .inl (cI, 64, .inl stk__37)), (aLaid, .inl (cI, 64, .inl laid__38)), (aTold, .inl (cI, 240, .inl told))]) [4, 0, 1, 2, 3] (by decide) rfl
        generalize H1 = H at hP hS ⊢
        refine lv_goto (tgt := 101) hx hb dX6_doOne_96 (by decide) ?_
        exact hq _ _ _ hP hD hS (lv_sub hl [5, 4, 3] rfl)
  · have hq := hq.2 hc
    refine lv_aload_n hx hb dX6_doOne_46 rfl (lv_at hl 5 rfl) ?_
    refine va_get (D := (dC, dI)) (ci := 5) (v := .ref aZ) (C := RX6) (T := TX6) (N := 16) hx hb hts iwX6_doOne_X6 hown hK hP 0 rfl rfl 0 (by decide) (hts _ kwX6_doOne_7) (fun _ h9 => h9) rfl dX6_doOne_47 ?_
    refine lv_iconst (v := 0) hx hb dX6_doOne_50 (by decide) ?_
    have hin := hq.1
    have hq := hq.2
    refine va_iald hx hb hK hP 1 0 rfl rfl hin dX6_doOne_51 ?_
    have hq := hq (fun (t_57 : Int32) => ∀ (H : Heap) (locs : List Loc) (ls : Array Slot), va_P (dC, dI) vwCl [(aM, .inr (5, [.ref aZ, .ref aPast, .int pastMany, .ref aKz, .int isKept, .ref aBuf, .int typed, .ref aStk, .ref aLaid, .int wid, .int hei, .ref aPcs, .ref aTold, .int toldMany, .int spot, .int wrong])), (aZ, .inl (cI, 207, .inl zz)), (aStk, .inl (cI, 64, .inl stk)), (aLaid, .inl (cI, 64, .inl laid)), (aTold, .inl (cI, 240, .inl told))] H → va_D A [(aM, .inr (5, [.ref aZ, .ref aPast, .int pastMany, .ref aKz, .int isKept, .ref aBuf, .int typed, .ref aStk, .ref aLaid, .int wid, .int hei, .ref aPcs, .ref aTold, .int toldMany, .int spot, .int wrong])), (aZ, .inl (cI, 207, .inl zz)), (aStk, .inl (cI, 64, .inl stk)), (aLaid, .inl (cI, 64, .inl laid)), (aTold, .inl (cI, 240, .inl told))] → va_S A s.heap H locs → lv_has ls 8 [(0, .ref aM)] → W p l e ({ frames := 6, cells := 0, slots := 0, locals := 143 } : Room) s m ([.ref aM, .int x1] : List Value).toArray below meth c H locs 0 0 Q (F0 m 61 ls [.int t_57])) (by
      intro t_57 hq H locs ls hP hD hS hl
      refine lv_istore (lv' := [(6, .int t_57), (0, .ref aM)]) hx hb dX6_doOne_61 hl (by decide) rfl (fun ls hl => ?_)
      refine lv_iload hx hb dX6_doOne_63 (lv_at hl 0 rfl) ?_
      refine lv_if_ne (tgt := 190) hx hb dX6_doOne_65 (by decide) (fun hc => ?_) (fun hc => ?_)
      · have hq := hq.1 hc
        exact hq _ _ _ hP hD hS (lv_sub hl [0] rfl)
      · have hq := hq.2 hc
        refine lv_aload_n hx hb dX6_doOne_68 rfl (lv_at hl 1 rfl) ?_
        have hPc := hP.sub (ws' := [(aM, .inr (5, [.ref aZ, .ref aPast, .int pastMany, .ref aKz, .int isKept, .ref aBuf, .int typed, .ref aStk, .ref aLaid, .int wid, .int hei, .ref aPcs, .ref aTold, .int toldMany, .int spot, .int wrong])), (aZ, .inl (cI, 207, .inl zz))]) [0, 1] rfl
        have hDc := hD.sub (ws' := [(aM, .inr (5, [.ref aZ, .ref aPast, .int pastMany, .ref aKz, .int isKept, .ref aBuf, .int typed, .ref aStk, .ref aLaid, .int wid, .int hei, .ref aPcs, .ref aTold, .int toldMany, .int spot, .int wrong])), (aZ, .inl (cI, 207, .inl zz))]) [0, 1] (by decide) rfl
        have hFc := va_free (wc := [(aM, .inr (5, [.ref aZ, .ref aPast, .int pastMany, .ref aKz, .int isKept, .ref aBuf, .int typed, .ref aStk, .ref aLaid, .int wid, .int hei, .ref aPcs, .ref aTold, .int toldMany, .int spot, .int wrong])), (aZ, .inl (cI, 207, .inl zz))]) hD hS hA [0, 1] rfl
        refine va_calli (va_runV (As := []) (rest := []) ⟨hx, hb, hml, hown, hts⟩ (c_X6_unfolds l dC dI cI cC cS aM aZ aPast aKz aBuf aStk aLaid aPcs aTold _ pastMany isKept typed wid hei toldMany spot wrong zz hq) (cwV 0 hts gX6_doOne_X6_unfolds rfl rfl rfl (by decide +kernel) ⟨Nat.le_of_ble_eq_true rfl, Nat.le_of_ble_eq_true rfl⟩) (gn_preV hPc hK hN hDc (ci := 5) (q0 := 0) rfl rfl) rfl rfl hl.1 rfl (lv_room (Nat.le_of_ble_eq_true rfl)) dX6_doOne_69 ⟨Nat.zero_le _, Nat.zero_le _⟩) hS (fun q _ h => hFc q h) hFc (fun r_58 u t H1 locs ht hvm hq hB hz1 hk1 hS => ?_)
        obtain ⟨zz__59, rfl⟩ : ∃ z, z = u := ⟨_, rfl⟩
        obtain ⟨hP1, hK1, hD1⟩ := hB
        rw [ht] at hP1
        try dsimp only at hq
        obtain ⟨hP, hD⟩ := va_join (wr := [(aStk, .inl (cI, 64, .inl stk)), (aLaid, .inl (cI, 64, .inl laid)), (aTold, .inl (cI, 240, .inl told))]) (w1 := [(aM, .inr (5, [.ref aZ, .ref aPast, .int pastMany, .ref aKz, .int isKept, .ref aBuf, .int typed, .ref aStk, .ref aLaid, .int wid, .int hei, .ref aPcs, .ref aTold, .int toldMany, .int spot, .int wrong])), (aZ, .inl (cI, 207, .inl zz__59))]) hP hD [0, 1] [2, 3, 4] rfl rfl (by decide) (by decide) hk1 hFc hP1 hD1
        have hP := hP.sub (ws' := [(aM, .inr (5, [.ref aZ, .ref aPast, .int pastMany, .ref aKz, .int isKept, .ref aBuf, .int typed, .ref aStk, .ref aLaid, .int wid, .int hei, .ref aPcs, .ref aTold, .int toldMany, .int spot, .int wrong])), (aZ, .inl (cI, 207, .inl zz__59)), (aStk, .inl (cI, 64, .inl stk)), (aLaid, .inl (cI, 64, .inl laid)), (aTold, .inl (cI, 240, .inl told))]) [3, 4, 0, 1, 2] rfl
        have hD := hD.sub (ws' := [(aM, .inr (5, [.ref aZ, .ref aPast, .int pastMany, .ref aKz, .int isKept, .ref aBuf, .int typed, .ref aStk, .ref aLaid, .int wid, .int hei, .ref aPcs, .ref aTold, .int toldMany, .int spot, .int wrong])), (aZ, .inl (cI, 207, .inl zz__59)), (aStk, .inl (cI, 64, .inl stk)), (aLaid, .inl (cI, 64, .inl laid)), (aTold, .inl (cI, 240, .inl told))]) [3, 4, 0, 1, 2] (by decide) rfl
        generalize H1 = H at hP hS ⊢
        refine lv_pop hx hb dX6_doOne_72 rfl ?_
        refine lv_goto (tgt := 190) hx hb dX6_doOne_73 (by decide) ?_
        exact hq _ _ _ hP hD hS (lv_sub hl [0] rfl))
    refine lv_if_ne (tgt := 60) hx hb dX6_doOne_52 (by decide) (fun hc => ?_) (fun hc => ?_)
    · have hq := hq.1 hc
      refine lv_iconst (v := 0) hx hb dX6_doOne_60 (by decide) ?_
      exact hq _ _ _ hP hD hS (lv_sub hl [5] rfl)
    · have hq := hq.2 hc
      refine lv_bipush (v := -3) hx hb dX6_doOne_55 (by decide) ?_
      refine lv_goto (tgt := 61) hx hb dX6_doOne_57 (by decide) ?_
      exact hq _ _ _ hP hD hS (lv_sub hl [5] rfl)
set_option maxRecDepth 20000 in
theorem kwX6_work_163 : Cond.fieldLink RX6 163 "PunchedFoldsModel" "toldMany" "I" ∈ wsX6_work := by decide +kernel
set_option maxRecDepth 20000 in
theorem iwX6_work_X6 : ∀ w ∈ wsX60, w ∈ wsX6_work := by decide +kernel
set_option maxRecDepth 20000 in
theorem kwX6_work_141 : Cond.fieldLink RX6 141 "PunchedFoldsModel" "typed" "I" ∈ wsX6_work := by decide +kernel
set_option maxHeartbeats 4000000 in
set_option maxRecDepth 100000 in
theorem c_X6_work (l : Launch) (dC : Nat → ClassId) (dI : Nat → Nat → Nat) (cI cC cS : ClassId) (aM : Nat) (aZ : Nat) (aPast : Nat) (aKz : Nat) (aBuf : Nat) (aStk : Nat) (aLaid : Nat) (aPcs : Nat) (aTold : Nat) (sz : Nat) (pastMany : Int32) (isKept : Int32) (typed : Int32) (wid : Int32) (hei : Int32) (toldMany : Int32) (spot : Int32) (wrong : Int32) (zz : Nat → Int32) (past : Nat → Int32) (buf : Nat → Int32) (stk : Nat → Int32) (laid : Nat → Int32) (told : Nat → Int32) {post : Int32 → Int32 → Int32 → Int32 → Int32 → Int32 → Int32 → Int32 → (Nat → Int32) → (Nat → Int32) → (Nat → Int32) → (Nat → Int32) → (Nat → Int32) → Prop} (hq : wp_X6_work pastMany typed wid hei toldMany spot wrong zz past buf stk laid told post) : Met l yX6_work wsX6_work ({ frames := 7, cells := 0, slots := 0, locals := 170 } : Room) (gn_Pre (dC, dI) cI cC cS [.ref aM] sz [(aM, .inr (5, [.ref aZ, .ref aPast, .int pastMany, .ref aKz, .int isKept, .ref aBuf, .int typed, .ref aStk, .ref aLaid, .int wid, .int hei, .ref aPcs, .ref aTold, .int toldMany, .int spot, .int wrong])), (aZ, .inl (cI, 207, .inl zz)), (aPast, .inl (cI, 1035, .inl past)), (aBuf, .inl (cC, 60, .inl buf)), (aStk, .inl (cI, 64, .inl stk)), (aLaid, .inl (cI, 64, .inl laid)), (aTold, .inl (cI, 240, .inl told))]) (va_Qi (fun (r : Int32) (u : Int32 × Int32 × Int32 × Int32 × Int32 × Int32 × Int32 × (Nat → Int32) × (Nat → Int32) × (Nat → Int32) × (Nat → Int32) × (Nat → Int32)) => post r u.1 u.2.1 u.2.2.1 u.2.2.2.1 u.2.2.2.2.1 u.2.2.2.2.2.1 u.2.2.2.2.2.2.1 u.2.2.2.2.2.2.2.1 u.2.2.2.2.2.2.2.2.1 u.2.2.2.2.2.2.2.2.2.1 u.2.2.2.2.2.2.2.2.2.2.1 u.2.2.2.2.2.2.2.2.2.2.2) (fun (u : Int32 × Int32 × Int32 × Int32 × Int32 × Int32 × Int32 × (Nat → Int32) × (Nat → Int32) × (Nat → Int32) × (Nat → Int32) × (Nat → Int32)) t => va_P (dC, dI) vwCl [(aM, .inr (5, [.ref aZ, .ref aPast, .int u.1, .ref aKz, .int isKept, .ref aBuf, .int u.2.1, .ref aStk, .ref aLaid, .int u.2.2.1, .int u.2.2.2.1, .ref aPcs, .ref aTold, .int u.2.2.2.2.1, .int u.2.2.2.2.2.1, .int u.2.2.2.2.2.2.1])), (aZ, .inl (cI, 207, .inl u.2.2.2.2.2.2.2.1)), (aPast, .inl (cI, 1035, .inl u.2.2.2.2.2.2.2.2.1)), (aBuf, .inl (cC, 60, .inl buf)), (aStk, .inl (cI, 64, .inl u.2.2.2.2.2.2.2.2.2.1)), (aLaid, .inl (cI, 64, .inl u.2.2.2.2.2.2.2.2.2.2.1)), (aTold, .inl (cI, 240, .inl u.2.2.2.2.2.2.2.2.2.2.2))] t.heap ∧ va_K (dC, dI) vwCl (gn_tys cI cC cS) t ∧ va_D (va_A [(aM, .inr (5, [.ref aZ, .ref aPast, .int pastMany, .ref aKz, .int isKept, .ref aBuf, .int typed, .ref aStk, .ref aLaid, .int wid, .int hei, .ref aPcs, .ref aTold, .int toldMany, .int spot, .int wrong])), (aZ, .inl (cI, 207, .inl zz)), (aPast, .inl (cI, 1035, .inl past)), (aBuf, .inl (cC, 60, .inl buf)), (aStk, .inl (cI, 64, .inl stk)), (aLaid, .inl (cI, 64, .inl laid)), (aTold, .inl (cI, 240, .inl told))] sz) [(aM, .inr (5, [.ref aZ, .ref aPast, .int u.1, .ref aKz, .int isKept, .ref aBuf, .int u.2.1, .ref aStk, .ref aLaid, .int u.2.2.1, .int u.2.2.2.1, .ref aPcs, .ref aTold, .int u.2.2.2.2.1, .int u.2.2.2.2.2.1, .int u.2.2.2.2.2.2.1])), (aZ, .inl (cI, 207, .inl u.2.2.2.2.2.2.2.1)), (aPast, .inl (cI, 1035, .inl u.2.2.2.2.2.2.2.2.1)), (aBuf, .inl (cC, 60, .inl buf)), (aStk, .inl (cI, 64, .inl u.2.2.2.2.2.2.2.2.2.1)), (aLaid, .inl (cI, 64, .inl u.2.2.2.2.2.2.2.2.2.2.1)), (aTold, .inl (cI, 240, .inl u.2.2.2.2.2.2.2.2.2.2.2))]) (va_A [(aM, .inr (5, [.ref aZ, .ref aPast, .int pastMany, .ref aKz, .int isKept, .ref aBuf, .int typed, .ref aStk, .ref aLaid, .int wid, .int hei, .ref aPcs, .ref aTold, .int toldMany, .int spot, .int wrong])), (aZ, .inl (cI, 207, .inl zz)), (aPast, .inl (cI, 1035, .inl past)), (aBuf, .inl (cC, 60, .inl buf)), (aStk, .inl (cI, 64, .inl stk)), (aLaid, .inl (cI, 64, .inl laid)), (aTold, .inl (cI, 240, .inl told))] sz)) 0 0 (va_A [(aM, .inr (5, [.ref aZ, .ref aPast, .int pastMany, .ref aKz, .int isKept, .ref aBuf, .int typed, .ref aStk, .ref aLaid, .int wid, .int hei, .ref aPcs, .ref aTold, .int toldMany, .int spot, .int wrong])), (aZ, .inl (cI, 207, .inl zz)), (aPast, .inl (cI, 1035, .inl past)), (aBuf, .inl (cC, 60, .inl buf)), (aStk, .inl (cI, 64, .inl stk)), (aLaid, .inl (cI, 64, .inl laid)), (aTold, .inl (cI, 240, .inl told))] sz) := by
  unfold wp_X6_work at hq
  refine Met.ofW (cc := cX6_work) (maxL := 2) (ret := (some .int)) (by decide) rfl ?_
  intro p e s m args below meth c s₁ B hml hv
  obtain ⟨rfl, hsz, hP, hK, hN, hD0⟩ := hv
  have hx := B.exec
  have hb := B.bytes
  have hr := B.returns
  have hts := atoms_spec (ws := wsX6_work) B.pre
  have hown : s.vm.findClass RX6 = some m.cls := findClass_of_methodNamed B.named
  have hlocks := B.notSynchronized
  subst hsz
  have hD := hD0.self (sz := s.heap.size)
  generalize hAe : va_A [(aM, .inr (5, [.ref aZ, .ref aPast, .int pastMany, .ref aKz, .int isKept, .ref aBuf, .int typed, .ref aStk, .ref aLaid, .int wid, .int hei, .ref aPcs, .ref aTold, .int toldMany, .int spot, .int wrong])), (aZ, .inl (cI, 207, .inl zz)), (aPast, .inl (cI, 1035, .inl past)), (aBuf, .inl (cC, 60, .inl buf)), (aStk, .inl (cI, 64, .inl stk)), (aLaid, .inl (cI, 64, .inl laid)), (aTold, .inl (cI, 240, .inl told))] s.heap.size = A at hD ⊢
  have hA : ∀ q : Nat, s.heap.size ≤ q → A q := fun q h => by rw [← hAe]; exact Or.inr h
  have hS : va_S A s.heap s.heap [] := va_S.rf
  have hl := lv_entry ([.ref aM] : List Value) (n := 2) (Nat.le_of_ble_eq_true rfl)
  rw [lg_entry_eq]
  generalize (lg_sl ([.ref aM] : List Value) ++ List.replicate (2 - (lg_sl ([.ref aM] : List Value)).length) Slot.unset).toArray = ls at hl ⊢
  have hl : lv_has ls 2 [(0, .ref aM)] := hl
  refine gn_Q (hret := fun Q => ∀ (pc : Nat) (ls : Array Slot) (H : Heap) (locs : List Loc) (r : Int32) (m_pastMany : Int32) (m_typed : Int32) (m_wid : Int32) (m_hei : Int32) (m_toldMany : Int32) (m_spot : Int32) (m_wrong : Int32) (m_zz : Nat → Int32) (m_past : Nat → Int32) (m_stk : Nat → Int32) (m_laid : Nat → Int32) (m_told : Nat → Int32), decode cX6_work pc = .ok (.ireturn, 1) → va_P (dC, dI) vwCl [(aM, .inr (5, [.ref aZ, .ref aPast, .int m_pastMany, .ref aKz, .int isKept, .ref aBuf, .int m_typed, .ref aStk, .ref aLaid, .int m_wid, .int m_hei, .ref aPcs, .ref aTold, .int m_toldMany, .int m_spot, .int m_wrong])), (aZ, .inl (cI, 207, .inl m_zz)), (aPast, .inl (cI, 1035, .inl m_past)), (aBuf, .inl (cC, 60, .inl buf)), (aStk, .inl (cI, 64, .inl m_stk)), (aLaid, .inl (cI, 64, .inl m_laid)), (aTold, .inl (cI, 240, .inl m_told))] H → va_D A [(aM, .inr (5, [.ref aZ, .ref aPast, .int m_pastMany, .ref aKz, .int isKept, .ref aBuf, .int m_typed, .ref aStk, .ref aLaid, .int m_wid, .int m_hei, .ref aPcs, .ref aTold, .int m_toldMany, .int m_spot, .int m_wrong])), (aZ, .inl (cI, 207, .inl m_zz)), (aPast, .inl (cI, 1035, .inl m_past)), (aBuf, .inl (cC, 60, .inl buf)), (aStk, .inl (cI, 64, .inl m_stk)), (aLaid, .inl (cI, 64, .inl m_laid)), (aTold, .inl (cI, 240, .inl m_told))] → va_S A s.heap H locs → post r m_pastMany m_typed m_wid m_hei m_toldMany m_spot m_wrong m_zz m_past m_stk m_laid m_told → W p l e ({ frames := 7, cells := 0, slots := 0, locals := 170 } : Room) s m ([.ref aM] : List Value).toArray below meth c H locs 0 0 Q (F0 m pc ls [.int r])) (fun Q hret => ?_) ?_
  rotate_left
  · intro pc ls H locs r m_pastMany m_typed m_wid m_hei m_toldMany m_spot m_wrong m_zz m_past m_stk m_laid m_told hdg hP hD hS hpost
    exact W.iret (v := r) hx hb hr (fun t ht hW => ⟨⟨r, (m_pastMany, m_typed, m_wid, m_hei, m_toldMany, m_spot, m_wrong, m_zz, m_past, m_stk, m_laid, m_told), rfl, hpost, by rw [ht]; exact hP, va_K.moved hW.alike hK, hD⟩, hS.F ht⟩) hS.2.2 hdg
  refine lv_aload_n hx hb dX6_work_0 rfl (lv_at hl 0 rfl) ?_
  have hPc := hP.sub (ws' := [(aM, .inr (5, [.ref aZ, .ref aPast, .int pastMany, .ref aKz, .int isKept, .ref aBuf, .int typed, .ref aStk, .ref aLaid, .int wid, .int hei, .ref aPcs, .ref aTold, .int toldMany, .int spot, .int wrong])), (aBuf, .inl (cC, 60, .inl buf)), (aTold, .inl (cI, 240, .inl told))]) [0, 3, 6] rfl
  have hDc := hD.sub (ws' := [(aM, .inr (5, [.ref aZ, .ref aPast, .int pastMany, .ref aKz, .int isKept, .ref aBuf, .int typed, .ref aStk, .ref aLaid, .int wid, .int hei, .ref aPcs, .ref aTold, .int toldMany, .int spot, .int wrong])), (aBuf, .inl (cC, 60, .inl buf)), (aTold, .inl (cI, 240, .inl told))]) [0, 3, 6] (by decide) rfl
  have hFc := va_free (wc := [(aM, .inr (5, [.ref aZ, .ref aPast, .int pastMany, .ref aKz, .int isKept, .ref aBuf, .int typed, .ref aStk, .ref aLaid, .int wid, .int hei, .ref aPcs, .ref aTold, .int toldMany, .int spot, .int wrong])), (aBuf, .inl (cC, 60, .inl buf)), (aTold, .inl (cI, 240, .inl told))]) hD hS hA [0, 3, 6] rfl
  refine va_calli (va_runV (As := []) (rest := []) ⟨hx, hb, hml, hown, hts⟩ (c_X6_errorPosition l dC dI cI cC cS aM aZ aPast aKz aBuf aStk aLaid aPcs aTold _ pastMany isKept typed wid hei toldMany spot wrong buf told hq) (cwV 0 hts gX6_work_X6_errorPosition rfl rfl rfl (by decide +kernel) ⟨Nat.le_of_ble_eq_true rfl, Nat.le_of_ble_eq_true rfl⟩) (gn_preV hPc hK hN hDc (ci := 5) (q0 := 0) rfl rfl) rfl rfl hl.1 rfl (lv_room (Nat.le_of_ble_eq_true rfl)) dX6_work_1 ⟨Nat.zero_le _, Nat.zero_le _⟩) hS (fun q _ h => hFc q h) hFc (fun r_1 u t H1 locs ht hvm hq hB hz1 hk1 hS => ?_)
  obtain ⟨toldMany__2, spot__3, wrong__4, told__5⟩ := u
  obtain ⟨hP1, hK1, hD1⟩ := hB
  rw [ht] at hP1
  try dsimp only at hq
  obtain ⟨hP, hD⟩ := va_join (wr := [(aZ, .inl (cI, 207, .inl zz)), (aPast, .inl (cI, 1035, .inl past)), (aStk, .inl (cI, 64, .inl stk)), (aLaid, .inl (cI, 64, .inl laid))]) (w1 := [(aM, .inr (5, [.ref aZ, .ref aPast, .int pastMany, .ref aKz, .int isKept, .ref aBuf, .int typed, .ref aStk, .ref aLaid, .int wid, .int hei, .ref aPcs, .ref aTold, .int toldMany__2, .int spot__3, .int wrong__4])), (aBuf, .inl (cC, 60, .inl buf)), (aTold, .inl (cI, 240, .inl told__5))]) hP hD [0, 3, 6] [1, 2, 4, 5] rfl rfl (by decide) (by decide) hk1 hFc hP1 hD1
  have hP := hP.sub (ws' := [(aM, .inr (5, [.ref aZ, .ref aPast, .int pastMany, .ref aKz, .int isKept, .ref aBuf, .int typed, .ref aStk, .ref aLaid, .int wid, .int hei, .ref aPcs, .ref aTold, .int toldMany__2, .int spot__3, .int wrong__4])), (aZ, .inl (cI, 207, .inl zz)), (aPast, .inl (cI, 1035, .inl past)), (aBuf, .inl (cC, 60, .inl buf)), (aStk, .inl (cI, 64, .inl stk)), (aLaid, .inl (cI, 64, .inl laid)), (aTold, .inl (cI, 240, .inl told__5))]) [4, 0, 1, 5, 2, 3, 6] rfl
  have hD := hD.sub (ws' := [(aM, .inr (5, [.ref aZ, .ref aPast, .int pastMany, .ref aKz, .int isKept, .ref aBuf, .int typed, .ref aStk, .ref aLaid, .int wid, .int hei, .ref aPcs, .ref aTold, .int toldMany__2, .int spot__3, .int wrong__4])), (aZ, .inl (cI, 207, .inl zz)), (aPast, .inl (cI, 1035, .inl past)), (aBuf, .inl (cC, 60, .inl buf)), (aStk, .inl (cI, 64, .inl stk)), (aLaid, .inl (cI, 64, .inl laid)), (aTold, .inl (cI, 240, .inl told__5))]) [4, 0, 1, 5, 2, 3, 6] (by decide) rfl
  generalize H1 = H at hP hS ⊢
  refine lv_bipush (v := -6) hx hb dX6_work_4 (by decide) ?_
  refine lv_icmp_eq (tgt := 12) hx hb dX6_work_6 (by decide) (fun hc => ?_) (fun hc => ?_)
  · have hq := hq.1 hc
    refine lv_aload_n hx hb dX6_work_12 rfl (lv_at hl 0 rfl) ?_
    have hPc := hP.sub (ws' := [(aM, .inr (5, [.ref aZ, .ref aPast, .int pastMany, .ref aKz, .int isKept, .ref aBuf, .int typed, .ref aStk, .ref aLaid, .int wid, .int hei, .ref aPcs, .ref aTold, .int toldMany__2, .int spot__3, .int wrong__4])), (aZ, .inl (cI, 207, .inl zz)), (aPast, .inl (cI, 1035, .inl past))]) [0, 1, 2] rfl
    have hDc := hD.sub (ws' := [(aM, .inr (5, [.ref aZ, .ref aPast, .int pastMany, .ref aKz, .int isKept, .ref aBuf, .int typed, .ref aStk, .ref aLaid, .int wid, .int hei, .ref aPcs, .ref aTold, .int toldMany__2, .int spot__3, .int wrong__4])), (aZ, .inl (cI, 207, .inl zz)), (aPast, .inl (cI, 1035, .inl past))]) [0, 1, 2] (by decide) rfl
    have hFc := va_free (wc := [(aM, .inr (5, [.ref aZ, .ref aPast, .int pastMany, .ref aKz, .int isKept, .ref aBuf, .int typed, .ref aStk, .ref aLaid, .int wid, .int hei, .ref aPcs, .ref aTold, .int toldMany__2, .int spot__3, .int wrong__4])), (aZ, .inl (cI, 207, .inl zz)), (aPast, .inl (cI, 1035, .inl past))]) hD hS hA [0, 1, 2] rfl
    refine va_callv (va_runV (As := []) (rest := []) ⟨hx, hb, hml, hown, hts⟩ (c_X6_record l dC dI cI cC cS aM aZ aPast aKz aBuf aStk aLaid aPcs aTold _ pastMany isKept typed wid hei toldMany__2 spot__3 wrong__4 zz past hq) (cwV 0 hts gX6_work_X6_record rfl rfl rfl (by decide +kernel) ⟨Nat.le_of_ble_eq_true rfl, Nat.le_of_ble_eq_true rfl⟩) (gn_preV hPc hK hN hDc (ci := 5) (q0 := 0) rfl rfl) rfl rfl hl.1 rfl (lv_room (Nat.le_of_ble_eq_true rfl)) dX6_work_13 ⟨Nat.zero_le _, Nat.zero_le _⟩) hS (fun q _ h => hFc q h) hFc (fun u t H1 locs ht hvm hq hB hz1 hk1 hS => ?_)
    obtain ⟨pastMany__6, past__7⟩ := u
    obtain ⟨hP1, hK1, hD1⟩ := hB
    rw [ht] at hP1
    try dsimp only at hq
    obtain ⟨hP, hD⟩ := va_join (wr := [(aBuf, .inl (cC, 60, .inl buf)), (aStk, .inl (cI, 64, .inl stk)), (aLaid, .inl (cI, 64, .inl laid)), (aTold, .inl (cI, 240, .inl told__5))]) (w1 := [(aM, .inr (5, [.ref aZ, .ref aPast, .int pastMany__6, .ref aKz, .int isKept, .ref aBuf, .int typed, .ref aStk, .ref aLaid, .int wid, .int hei, .ref aPcs, .ref aTold, .int toldMany__2, .int spot__3, .int wrong__4])), (aZ, .inl (cI, 207, .inl zz)), (aPast, .inl (cI, 1035, .inl past__7))]) hP hD [0, 1, 2] [3, 4, 5, 6] rfl rfl (by decide) (by decide) hk1 hFc hP1 hD1
    have hP := hP.sub (ws' := [(aM, .inr (5, [.ref aZ, .ref aPast, .int pastMany__6, .ref aKz, .int isKept, .ref aBuf, .int typed, .ref aStk, .ref aLaid, .int wid, .int hei, .ref aPcs, .ref aTold, .int toldMany__2, .int spot__3, .int wrong__4])), (aZ, .inl (cI, 207, .inl zz)), (aPast, .inl (cI, 1035, .inl past__7)), (aBuf, .inl (cC, 60, .inl buf)), (aStk, .inl (cI, 64, .inl stk)), (aLaid, .inl (cI, 64, .inl laid)), (aTold, .inl (cI, 240, .inl told__5))]) [4, 5, 6, 0, 1, 2, 3] rfl
    have hD := hD.sub (ws' := [(aM, .inr (5, [.ref aZ, .ref aPast, .int pastMany__6, .ref aKz, .int isKept, .ref aBuf, .int typed, .ref aStk, .ref aLaid, .int wid, .int hei, .ref aPcs, .ref aTold, .int toldMany__2, .int spot__3, .int wrong__4])), (aZ, .inl (cI, 207, .inl zz)), (aPast, .inl (cI, 1035, .inl past__7)), (aBuf, .inl (cC, 60, .inl buf)), (aStk, .inl (cI, 64, .inl stk)), (aLaid, .inl (cI, 64, .inl laid)), (aTold, .inl (cI, 240, .inl told__5))]) [4, 5, 6, 0, 1, 2, 3] (by decide) rfl
    generalize H1 = H at hP hS ⊢
    refine lv_iconst (v := 0) hx hb dX6_work_16 (by decide) ?_
    refine lv_istore_n (lv' := [(1, .int (0 : Int32)), (0, .ref aM)]) hx hb dX6_work_17 rfl hl (by decide) rfl (fun ls hl => ?_)
    have hq := hq (fun (v1_8 : Int32) (wid__9 : Int32) (hei__10 : Int32) (zz__11 : Nat → Int32) (stk__12 : Nat → Int32) (laid__13 : Nat → Int32) => ∀ (H : Heap) (locs : List Loc) (ls : Array Slot), va_P (dC, dI) vwCl [(aM, .inr (5, [.ref aZ, .ref aPast, .int pastMany__6, .ref aKz, .int isKept, .ref aBuf, .int typed, .ref aStk, .ref aLaid, .int wid__9, .int hei__10, .ref aPcs, .ref aTold, .int toldMany__2, .int spot__3, .int wrong__4])), (aZ, .inl (cI, 207, .inl zz__11)), (aPast, .inl (cI, 1035, .inl past__7)), (aBuf, .inl (cC, 60, .inl buf)), (aStk, .inl (cI, 64, .inl stk__12)), (aLaid, .inl (cI, 64, .inl laid__13)), (aTold, .inl (cI, 240, .inl told__5))] H → va_D A [(aM, .inr (5, [.ref aZ, .ref aPast, .int pastMany__6, .ref aKz, .int isKept, .ref aBuf, .int typed, .ref aStk, .ref aLaid, .int wid__9, .int hei__10, .ref aPcs, .ref aTold, .int toldMany__2, .int spot__3, .int wrong__4])), (aZ, .inl (cI, 207, .inl zz__11)), (aPast, .inl (cI, 1035, .inl past__7)), (aBuf, .inl (cC, 60, .inl buf)), (aStk, .inl (cI, 64, .inl stk__12)), (aLaid, .inl (cI, 64, .inl laid__13)), (aTold, .inl (cI, 240, .inl told__5))] → va_S A s.heap H locs → lv_has ls 2 [(0, .ref aM), (1, .int v1_8)] → W p l e ({ frames := 7, cells := 0, slots := 0, locals := 170 } : Room) s m ([.ref aM] : List Value).toArray below meth c H locs 0 0 Q (F0 m 18 ls [])) (by
      intro v1_8 wid__9 hei__10 zz__11 stk__12 laid__13 hq H locs ls hP hD hS hl
      refine lv_iload_n hx hb dX6_work_18 rfl (lv_at hl 1 rfl) ?_
      refine lv_aload_n hx hb dX6_work_19 rfl (lv_at hl 0 rfl) ?_
      refine va_get (D := (dC, dI)) (ci := 5) (v := .int toldMany__2) (C := RX6) (T := TX6) (N := 16) hx hb hts iwX6_work_X6 hown hK hP 0 rfl rfl 13 (by decide) (hts _ kwX6_work_163) (fun _ h9 => h9) rfl dX6_work_20 ?_
      have hq := hq (fun (wid__14 : Int32) (hei__15 : Int32) (zz__16 : Nat → Int32) (stk__17 : Nat → Int32) (laid__18 : Nat → Int32) => ∀ (H : Heap) (locs : List Loc) (ls : Array Slot), va_P (dC, dI) vwCl [(aM, .inr (5, [.ref aZ, .ref aPast, .int pastMany__6, .ref aKz, .int isKept, .ref aBuf, .int typed, .ref aStk, .ref aLaid, .int wid__14, .int hei__15, .ref aPcs, .ref aTold, .int toldMany__2, .int spot__3, .int wrong__4])), (aZ, .inl (cI, 207, .inl zz__16)), (aPast, .inl (cI, 1035, .inl past__7)), (aBuf, .inl (cC, 60, .inl buf)), (aStk, .inl (cI, 64, .inl stk__17)), (aLaid, .inl (cI, 64, .inl laid__18)), (aTold, .inl (cI, 240, .inl told__5))] H → va_D A [(aM, .inr (5, [.ref aZ, .ref aPast, .int pastMany__6, .ref aKz, .int isKept, .ref aBuf, .int typed, .ref aStk, .ref aLaid, .int wid__14, .int hei__15, .ref aPcs, .ref aTold, .int toldMany__2, .int spot__3, .int wrong__4])), (aZ, .inl (cI, 207, .inl zz__16)), (aPast, .inl (cI, 1035, .inl past__7)), (aBuf, .inl (cC, 60, .inl buf)), (aStk, .inl (cI, 64, .inl stk__17)), (aLaid, .inl (cI, 64, .inl laid__18)), (aTold, .inl (cI, 240, .inl told__5))] → va_S A s.heap H locs → lv_has ls 2 [(0, .ref aM), (1, .int v1_8)] → W p l e ({ frames := 7, cells := 0, slots := 0, locals := 170 } : Room) s m ([.ref aM] : List Value).toArray below meth c H locs 0 0 Q (F0 m 42 ls [])) (by
        intro wid__14 hei__15 zz__16 stk__17 laid__18 hq H locs ls hP hD hS hl
        refine lv_aload_n hx hb dX6_work_42 rfl (lv_at hl 0 rfl) ?_
        refine lv_iconst (v := 0) hx hb dX6_work_43 (by decide) ?_
        refine va_put (D := (dC, dI)) (ci := 5) (v := .int (0 : Int32)) (ty := .int) (C := RX6) (T := TX6) (N := 16) hx hb hts iwX6_work_X6 tyX6 tyX6_ok nmX6 hown hK hP hD hS 0 rfl rfl 6 (by decide) (hts _ kwX6_work_141) (fun _ h9 => h9) rfl (by decide +kernel) rfl rfl (Nat.le_of_ble_eq_true rfl) dX6_work_44 (fun H locs hP hD hS => ?_)
        have hP : va_P (dC, dI) vwCl [(aM, .inr (5, [.ref aZ, .ref aPast, .int pastMany__6, .ref aKz, .int isKept, .ref aBuf, .int (0 : Int32), .ref aStk, .ref aLaid, .int wid__14, .int hei__15, .ref aPcs, .ref aTold, .int toldMany__2, .int spot__3, .int wrong__4])), (aZ, .inl (cI, 207, .inl zz__16)), (aPast, .inl (cI, 1035, .inl past__7)), (aBuf, .inl (cC, 60, .inl buf)), (aStk, .inl (cI, 64, .inl stk__17)), (aLaid, .inl (cI, 64, .inl laid__18)), (aTold, .inl (cI, 240, .inl told__5))] H := hP
        have hD : va_D A [(aM, .inr (5, [.ref aZ, .ref aPast, .int pastMany__6, .ref aKz, .int isKept, .ref aBuf, .int (0 : Int32), .ref aStk, .ref aLaid, .int wid__14, .int hei__15, .ref aPcs, .ref aTold, .int toldMany__2, .int spot__3, .int wrong__4])), (aZ, .inl (cI, 207, .inl zz__16)), (aPast, .inl (cI, 1035, .inl past__7)), (aBuf, .inl (cC, 60, .inl buf)), (aStk, .inl (cI, 64, .inl stk__17)), (aLaid, .inl (cI, 64, .inl laid__18)), (aTold, .inl (cI, 240, .inl told__5))] := hD
        refine lv_iload_n hx hb dX6_work_47 rfl (lv_at hl 1 rfl) ?_
        exact hret _ _ _ _ _ _ _ _ _ _ _ _ _ _ _ _ _ dX6_work_48 hP hD hS hq)
      refine lv_icmp_ge (tgt := 42) hx hb dX6_work_23 (by decide) (fun hc => ?_) (fun hc => ?_)
      · have hq := hq.1 hc
        exact hq _ _ _ hP hD hS (lv_sub hl [0, 1] rfl)
      · have hq := hq.2 hc
        refine lv_aload_n hx hb dX6_work_26 rfl (lv_at hl 0 rfl) ?_
        refine lv_iconst (v := 4) hx hb dX6_work_27 (by decide) ?_
        refine lv_iload_n hx hb dX6_work_28 rfl (lv_at hl 1 rfl) ?_
        refine lv_imul hx hb dX6_work_29 ?_
        have hPc := hP.sub (ws' := [(aM, .inr (5, [.ref aZ, .ref aPast, .int pastMany__6, .ref aKz, .int isKept, .ref aBuf, .int typed, .ref aStk, .ref aLaid, .int wid__9, .int hei__10, .ref aPcs, .ref aTold, .int toldMany__2, .int spot__3, .int wrong__4])), (aZ, .inl (cI, 207, .inl zz__11)), (aStk, .inl (cI, 64, .inl stk__12)), (aLaid, .inl (cI, 64, .inl laid__13)), (aTold, .inl (cI, 240, .inl told__5))]) [0, 1, 4, 5, 6] rfl
        have hDc := hD.sub (ws' := [(aM, .inr (5, [.ref aZ, .ref aPast, .int pastMany__6, .ref aKz, .int isKept, .ref aBuf, .int typed, .ref aStk, .ref aLaid, .int wid__9, .int hei__10, .ref aPcs, .ref aTold, .int toldMany__2, .int spot__3, .int wrong__4])), (aZ, .inl (cI, 207, .inl zz__11)), (aStk, .inl (cI, 64, .inl stk__12)), (aLaid, .inl (cI, 64, .inl laid__13)), (aTold, .inl (cI, 240, .inl told__5))]) [0, 1, 4, 5, 6] (by decide) rfl
        have hFc := va_free (wc := [(aM, .inr (5, [.ref aZ, .ref aPast, .int pastMany__6, .ref aKz, .int isKept, .ref aBuf, .int typed, .ref aStk, .ref aLaid, .int wid__9, .int hei__10, .ref aPcs, .ref aTold, .int toldMany__2, .int spot__3, .int wrong__4])), (aZ, .inl (cI, 207, .inl zz__11)), (aStk, .inl (cI, 64, .inl stk__12)), (aLaid, .inl (cI, 64, .inl laid__13)), (aTold, .inl (cI, 240, .inl told__5))]) hD hS hA [0, 1, 4, 5, 6] rfl
        refine va_calli (va_runV (As := [.int ((4 : Int32) * v1_8)]) (rest := []) ⟨hx, hb, hml, hown, hts⟩ (c_X6_doOne l dC dI cI cC cS aM aZ aPast aKz aBuf aStk aLaid aPcs aTold _ pastMany__6 isKept typed wid__9 hei__10 toldMany__2 spot__3 wrong__4 zz__11 stk__12 laid__13 told__5 ((4 : Int32) * v1_8) hq) (cwV 1 hts gX6_work_X6_doOne rfl rfl rfl (by decide +kernel) ⟨Nat.le_of_ble_eq_true rfl, Nat.le_of_ble_eq_true rfl⟩) (gn_preV hPc hK hN hDc (ci := 5) (q0 := 0) rfl rfl) rfl rfl hl.1 rfl (lv_room (Nat.le_of_ble_eq_true rfl)) dX6_work_30 ⟨Nat.zero_le _, Nat.zero_le _⟩) hS (fun q _ h => hFc q h) hFc (fun r_19 u t H1 locs ht hvm hq hB hz1 hk1 hS => ?_)
        obtain ⟨wid__20, hei__21, zz__22, stk__23, laid__24⟩ := u
        obtain ⟨hP1, hK1, hD1⟩ := hB
        rw [ht] at hP1
        try dsimp only at hq
        obtain ⟨hP, hD⟩ := va_join (wr := [(aPast, .inl (cI, 1035, .inl past__7)), (aBuf, .inl (cC, 60, .inl buf))]) (w1 := [(aM, .inr (5, [.ref aZ, .ref aPast, .int pastMany__6, .ref aKz, .int isKept, .ref aBuf, .int typed, .ref aStk, .ref aLaid, .int wid__20, .int hei__21, .ref aPcs, .ref aTold, .int toldMany__2, .int spot__3, .int wrong__4])), (aZ, .inl (cI, 207, .inl zz__22)), (aStk, .inl (cI, 64, .inl stk__23)), (aLaid, .inl (cI, 64, .inl laid__24)), (aTold, .inl (cI, 240, .inl told__5))]) hP hD [0, 1, 4, 5, 6] [2, 3] rfl rfl (by decide) (by decide) hk1 hFc hP1 hD1
        have hP := hP.sub (ws' := [(aM, .inr (5, [.ref aZ, .ref aPast, .int pastMany__6, .ref aKz, .int isKept, .ref aBuf, .int typed, .ref aStk, .ref aLaid, .int wid__20, .int hei__21, .ref aPcs, .ref aTold, .int toldMany__2, .int spot__3, .int wrong__4])), (aZ, .inl (cI, 207, .inl zz__22)), (aPast, .inl (cI, 1035, .inl past__7)), (aBuf, .inl (cC, 60, .inl buf)), (aStk, .inl (cI, 64, .inl stk__23)), (aLaid, .inl (cI, 64, .inl laid__24)), (aTold, .inl (cI, 240, .inl told__5))]) [2, 3, 0, 1, 4, 5, 6] rfl
        have hD := hD.sub (ws' := [(aM, .inr (5, [.ref aZ, .ref aPast, .int pastMany__6, .ref aKz, .int isKept, .ref aBuf, .int typed, .ref aStk, .ref aLaid, .int wid__20, .int hei__21, .ref aPcs, .ref aTold, .int toldMany__2, .int spot__3, .int wrong__4])), (aZ, .inl (cI, 207, .inl zz__22)), (aPast, .inl (cI, 1035, .inl past__7)), (aBuf, .inl (cC, 60, .inl buf)), (aStk, .inl (cI, 64, .inl stk__23)), (aLaid, .inl (cI, 64, .inl laid__24)), (aTold, .inl (cI, 240, .inl told__5))]) [2, 3, 0, 1, 4, 5, 6] (by decide) rfl
        generalize H1 = H at hP hS ⊢
        refine lv_if_ne (tgt := 42) hx hb dX6_work_33 (by decide) (fun hc => ?_) (fun hc => ?_)
        · have hq := hq.1 hc
          exact hq _ _ _ hP hD hS (lv_sub hl [0, 1] rfl)
        · have hq := hq.2 hc
          refine lv_iinc (v := (v1_8 + (1 : Int32))) (lv' := [(1, .int (v1_8 + (1 : Int32))), (0, .ref aM)]) hx hb dX6_work_36 hl (k := 1) rfl rfl (by decide) rfl (fun ls hl => ?_)
          refine lv_goto (tgt := 18) hx hb dX6_work_39 (by decide) ?_
          exact hq _ _ _ hP hD hS (lv_sub hl [1, 0] rfl))
    exact hq _ _ _ hP hD hS (lv_sub hl [1, 0] rfl)
  · have hq := hq.2 hc
    refine lv_bipush (v := -5) hx hb dX6_work_9 (by decide) ?_
    exact hret _ _ _ _ _ _ _ _ _ _ _ _ _ _ _ _ _ dX6_work_11 hP hD hS hq
