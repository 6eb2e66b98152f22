def wp_X6_in (x0 : Int32) (x1 : Int32) (x2 : Int32) (post : Int32 → Prop) : Prop :=
  ∀ (P14 : Prop), ((((0 : Int32) = 0 ∨ (0 : Int32) = 1) ∧ (post (0 : Int32))) → P14 ) → ((x0 < x1) → P14) ∧ ((¬ x0 < x1) → ((x2 < x0) → P14) ∧ ((¬ x2 < x0) → ((1 : Int32) = 0 ∨ (1 : Int32) = 1) ∧ (post (1 : Int32))))
def wp_X6_field (x0 : Int32) (x1 : Int32) (x2 : Int32) (post : Int32 → Prop) : Prop :=
  post ((x1 * x2) + x0)
def wp_X6_turned (x0 : Int32) (post : Int32 → Prop) : Prop :=
  ((¬ (x0 - x0 / (2 : Int32) * (2 : Int32)) = 0) → post (x0 - (1 : Int32))) ∧ (((x0 - x0 / (2 : Int32) * (2 : Int32)) = 0) → post (x0 + (1 : Int32)))
def wp_X6_layers (wid : Int32) (hei : Int32) (post : Int32 → Prop) : Prop :=
  ¬ (wid * hei) = 0 ∧ (post ((64 : Int32) / (wid * hei)))
def wp_X6_record (pastMany : Int32) (zz : Nat → Int32) (past : Nat → Int32) (post : Int32 → (Nat → Int32) → Prop) : Prop :=
  ∀ (P49 : Int32 → (Nat → Int32) → Prop), (∀ (pastMany__1 : Int32) (past__2 : Nat → Int32), (∀ (P51 : Int32 → (Nat → Int32) → Prop), (∀ (v1_3 : Int32) (past__4 : Nat → Int32), ((((207 : Int32) ≤ v1_3) → post (pastMany__1 + (1 : Int32)) past__4) ∧ ((¬ (207 : Int32) ≤ v1_3) → vp_in v1_3 207 ∧ (vp_in ((pastMany__1 * (207 : Int32)) + v1_3) 1035 ∧ (P51 (v1_3 + (1 : Int32)) (upd past__4 (((pastMany__1 * (207 : Int32)) + v1_3)).toNatClampNeg (zz (v1_3).toNatClampNeg)))))) → P51 v1_3 past__4) → P51 (0 : Int32) past__2) → P49 pastMany__1 past__2) → ((¬ pastMany = (5 : Int32)) → P49 pastMany past) ∧ ((pastMany = (5 : Int32)) → ∀ (P10 : Int32 → (Nat → Int32) → Prop), (∀ (v1_5 : Int32) (past__6 : Nat → Int32), ((((828 : Int32) ≤ v1_5) → P49 (pastMany - (1 : Int32)) past__6) ∧ ((¬ (828 : Int32) ≤ v1_5) → vp_in (v1_5 + (207 : Int32)) 1035 ∧ (vp_in v1_5 1035 ∧ (P10 (v1_5 + (1 : Int32)) (upd past__6 (v1_5).toNatClampNeg (past__6 ((v1_5 + (207 : Int32))).toNatClampNeg)))))) → P10 v1_5 past__6) → P10 (0 : Int32) past)
def wp_X6_undo (pastMany : Int32) (zz : Nat → Int32) (past : Nat → Int32) (post : Int32 → Int32 → (Nat → Int32) → Prop) : Prop :=
  ((¬ pastMany = 0) → ∀ (P22 : Int32 → (Nat → Int32) → Prop), (∀ (v1_1 : Int32) (zz__2 : Nat → Int32), ((((207 : Int32) ≤ v1_1) → post (pastMany - (1 : Int32)) (pastMany - (1 : Int32)) zz__2) ∧ ((¬ (207 : Int32) ≤ v1_1) → vp_in (((pastMany - (1 : Int32)) * (207 : Int32)) + v1_1) 1035 ∧ (vp_in v1_1 207 ∧ (P22 (v1_1 + (1 : Int32)) (upd zz__2 (v1_1).toNatClampNeg (past ((((pastMany - (1 : Int32)) * (207 : Int32)) + v1_1)).toNatClampNeg)))))) → P22 v1_1 zz__2) → P22 (0 : Int32) zz) ∧ ((pastMany = 0) → post (-3 : Int32) pastMany zz)
def wp_X6_save (isKept : Int32) (zz : Nat → Int32) (kz : Nat → Int32) (post : Int32 → Int32 → (Nat → Int32) → Prop) : Prop :=
  ∀ (P7 : Int32 → (Nat → Int32) → Prop), (∀ (v1_1 : Int32) (kz__2 : Nat → Int32), ((((207 : Int32) ≤ v1_1) → vp_in (0 : Int32) 207 ∧ (post (zz ((0 : Int32)).toNatClampNeg) (1 : Int32) kz__2)) ∧ ((¬ (207 : Int32) ≤ v1_1) → vp_in v1_1 207 ∧ (vp_in v1_1 207 ∧ (P7 (v1_1 + (1 : Int32)) (upd kz__2 (v1_1).toNatClampNeg (zz (v1_1).toNatClampNeg)))))) → P7 v1_1 kz__2) → P7 (0 : Int32) kz
def wp_X6_restore (pastMany : Int32) (isKept : Int32) (zz : Nat → Int32) (past : Nat → Int32) (kz : Nat → Int32) (post : Int32 → Int32 → (Nat → Int32) → (Nat → Int32) → Prop) : Prop :=
  ((¬ isKept = 0) → wp_X6_record pastMany zz past (fun pastMany__1 past__2 => ∀ (P16 : Int32 → (Nat → Int32) → Prop), (∀ (v1_3 : Int32) (zz__4 : Nat → Int32), ((((207 : Int32) ≤ v1_3) → vp_in (0 : Int32) 207 ∧ (post (zz__4 ((0 : Int32)).toNatClampNeg) pastMany__1 zz__4 past__2)) ∧ ((¬ (207 : Int32) ≤ v1_3) → vp_in v1_3 207 ∧ (vp_in v1_3 207 ∧ (P16 (v1_3 + (1 : Int32)) (upd zz__4 (v1_3).toNatClampNeg (kz (v1_3).toNatClampNeg)))))) → P16 v1_3 zz__4) → P16 (0 : Int32) zz)) ∧ ((isKept = 0) → post (-3 : Int32) pastMany zz past)
def wp_X6_layFold (wid : Int32) (hei : Int32) (stk : Nat → Int32) (laid : Nat → Int32) (x1 : Int32) (post : Int32 → Int32 → (Nat → Int32) → (Nat → Int32) → Prop) : Prop :=
  wp_X6_layers wid hei (fun r_1 => ∀ (P23 : Int32 → Prop), (∀ (t_2 : Int32), (∀ (P42 : Int32 → Prop), (∀ (t_3 : Int32), (∀ (P47 : Int32 → (Nat → Int32) → Prop), (∀ (v5_4 : Int32) (laid__5 : Nat → Int32), (((t_3 ≤ v5_4) → ∀ (P272 : Int32 → (Nat → Int32) → Prop), (∀ (v5_6 : Int32) (stk__7 : Nat → Int32), ((((64 : Int32) ≤ v5_6) → post t_2 t_3 stk__7 laid__5) ∧ ((¬ (64 : Int32) ≤ v5_6) → vp_in v5_6 64 ∧ (vp_in v5_6 64 ∧ (P272 (v5_6 + (1 : Int32)) (upd stk__7 (v5_6).toNatClampNeg (laid__5 (v5_6).toNatClampNeg)))))) → P272 v5_6 stk__7) → P272 (0 : Int32) stk) ∧ ((¬ t_3 ≤ v5_4) → ∀ (P57 : Int32 → (Nat → Int32) → Prop), (∀ (v6_8 : Int32) (laid__9 : Nat → Int32), (((t_2 ≤ v6_8) → P47 (v5_4 + (1 : Int32)) laid__9) ∧ ((¬ t_2 ≤ v6_8) → ∀ (P76 : Int32 → Prop), (∀ (t_10 : Int32), (∀ (P91 : Int32 → Prop), (∀ (t_11 : Int32), (wp_X6_field t_10 t_11 wid (fun r_12 => ∀ (P132 : Int32 → Prop), (∀ (t_13 : Int32), (∀ (P166 : Int32 → Prop), (∀ (t_14 : Int32), (wp_X6_field t_13 t_14 wid (fun r_15 => wp_X6_field v6_8 v5_4 t_2 (fun r_16 => ∀ w9_17 : Int32, w9_17 = ((r_16 * (2 : Int32)) * r_1) → ∀ (P192 : Int32 → (Nat → Int32) → Prop), (∀ (v10_18 : Int32) (laid__19 : Nat → Int32), (((r_1 ≤ v10_18) → P57 (v6_8 + (1 : Int32)) laid__19) ∧ ((¬ r_1 ≤ v10_18) → vp_in ((((r_15 * r_1) + r_1) - (1 : Int32)) - v10_18) 64 ∧ (wp_X6_turned (stk (((((r_15 * r_1) + r_1) - (1 : Int32)) - v10_18)).toNatClampNeg) (fun r_20 => vp_in (w9_17 + v10_18) 64 ∧ (vp_in ((r_12 * r_1) + v10_18) 64 ∧ (vp_in ((w9_17 + r_1) + v10_18) 64 ∧ (P192 (v10_18 + (1 : Int32)) (upd (upd laid__19 ((w9_17 + v10_18)).toNatClampNeg r_20) (((w9_17 + r_1) + v10_18)).toNatClampNeg (stk (((r_12 * r_1) + v10_18)).toNatClampNeg))))))))) → P192 v10_18 laid__19) → P192 (0 : Int32) laid__9))) → P166 t_14) → ((¬ x1 = (2 : Int32)) → ((¬ x1 = (3 : Int32)) → P166 v5_4) ∧ ((x1 = (3 : Int32)) → P166 ((hei - (1 : Int32)) - v5_4))) ∧ ((x1 = (2 : Int32)) → P166 ((t_3 - (1 : Int32)) - v5_4))) → P132 t_13) → ((¬ x1 = 0) → ((¬ x1 = (1 : Int32)) → P132 v6_8) ∧ ((x1 = (1 : Int32)) → P132 ((wid - (1 : Int32)) - v6_8))) ∧ ((x1 = 0) → P132 ((t_2 - (1 : Int32)) - v6_8)))) → P91 t_11) → ((¬ x1 = (2 : Int32)) → P91 v5_4) ∧ ((x1 = (2 : Int32)) → P91 (v5_4 + t_3))) → P76 t_10) → ((¬ x1 = 0) → P76 v6_8) ∧ ((x1 = 0) → P76 (v6_8 + t_2)))) → P57 v6_8 laid__9) → P57 (0 : Int32) laid__5)) → P47 v5_4 laid__5) → P47 (0 : Int32) laid) → P42 t_3) → (((2 : Int32) ≤ x1) → P42 (hei / (2 : Int32))) ∧ ((¬ (2 : Int32) ≤ x1) → P42 hei)) → P23 t_2) → (((2 : Int32) ≤ x1) → P23 wid) ∧ ((¬ (2 : Int32) ≤ x1) → P23 (wid / (2 : Int32))))
def wp_X6_lay (wid : Int32) (hei : Int32) (zz : Nat → Int32) (stk : Nat → Int32) (laid : Nat → Int32) (x1 : Int32) (post : Int32 → Int32 → (Nat → Int32) → (Nat → Int32) → Prop) : Prop :=
  ∀ (P14 : Int32 → (Nat → Int32) → Prop), (∀ (v2_1 : Int32) (stk__2 : Nat → Int32), ((((64 : Int32) ≤ v2_1) → ∀ (P37 : Int32 → Int32 → Int32 → (Nat → Int32) → (Nat → Int32) → Prop), (∀ (v2_3 : Int32) (wid__4 : Int32) (hei__5 : Int32) (stk__6 : Nat → Int32) (laid__7 : Nat → Int32), (((x1 ≤ v2_3) → post wid__4 hei__5 stk__6 laid__7) ∧ ((¬ x1 ≤ v2_3) → vp_in ((1 : Int32) + v2_3) 207 ∧ (wp_X6_layFold wid__4 hei__5 stk__6 laid__7 (zz (((1 : Int32) + v2_3)).toNatClampNeg) (fun wid__8 hei__9 stk__10 laid__11 => P37 (v2_3 + (1 : Int32)) wid__8 hei__9 stk__10 laid__11)))) → P37 v2_3 wid__4 hei__5 stk__6 laid__7) → P37 (0 : Int32) (8 : Int32) (8 : Int32) stk__2 laid) ∧ ((¬ (64 : Int32) ≤ v2_1) → vp_in v2_1 64 ∧ (P14 (v2_1 + (1 : Int32)) (upd stk__2 (v2_1).toNatClampNeg ((2 : Int32) * v2_1))))) → P14 v2_1 stk__2) → P14 (0 : Int32) stk
def wp_X6_layNow (wid : Int32) (hei : Int32) (zz : Nat → Int32) (stk : Nat → Int32) (laid : Nat → Int32) (post : Int32 → Int32 → (Nat → Int32) → (Nat → Int32) → Prop) : Prop :=
  vp_in (0 : Int32) 207 ∧ (wp_X6_lay wid hei zz stk laid (zz ((0 : Int32)).toNatClampNeg) (fun wid__1 hei__2 stk__3 laid__4 => post wid__1 hei__2 stk__3 laid__4))
def wp_X6_top (wid : Int32) (hei : Int32) (zz : Nat → Int32) (stk : Nat → Int32) (laid : Nat → Int32) (x1 : Int32) (x2 : Int32) (post : Int32 → Int32 → Int32 → (Nat → Int32) → (Nat → Int32) → Prop) : Prop :=
  wp_X6_layNow wid hei zz stk laid (fun wid__1 hei__2 stk__3 laid__4 => wp_X6_in x1 (0 : Int32) (wid__1 - (1 : Int32)) (fun r_5 => ∀ (P49 : Prop), ((post (-6 : Int32) wid__1 hei__2 stk__3 laid__4) → P49 ) → ((r_5 = 0) → P49) ∧ ((¬ r_5 = 0) → wp_X6_in x2 (0 : Int32) (hei__2 - (1 : Int32)) (fun r_6 => ((r_6 = 0) → P49) ∧ ((¬ r_6 = 0) → wp_X6_field x1 x2 wid__1 (fun r_7 => wp_X6_layers wid__1 hei__2 (fun r_8 => post (r_7 * r_8) wid__1 hei__2 stk__3 laid__4)))))))
def wp_X6_whyNotFold (wid : Int32) (hei : Int32) (zz : Nat → Int32) (stk : Nat → Int32) (laid : Nat → Int32) (x1 : Int32) (post : Int32 → Int32 → Int32 → (Nat → Int32) → (Nat → Int32) → Prop) : Prop :=
  wp_X6_in x1 (0 : Int32) (3 : Int32) (fun r_1 => ((¬ r_1 = 0) → wp_X6_layNow wid hei zz stk laid (fun wid__2 hei__3 stk__4 laid__5 => ∀ (P32 : Int32 → Prop), (∀ (t_6 : Int32), (((¬ t_6 = (1 : Int32)) → post (0 : Int32) wid__2 hei__3 stk__4 laid__5) ∧ ((t_6 = (1 : Int32)) → post (-3 : Int32) wid__2 hei__3 stk__4 laid__5)) → P32 t_6) → (((2 : Int32) ≤ x1) → P32 hei__3) ∧ ((¬ (2 : Int32) ≤ x1) → P32 wid__2))) ∧ ((r_1 = 0) → post (-2 : Int32) wid hei stk laid))
def wp_X6_folds (wid : Int32) (hei : Int32) (zz : Nat → Int32) (stk : Nat → Int32) (laid : Nat → Int32) (x1 : Int32) (post : Int32 → Int32 → Int32 → (Nat → Int32) → (Nat → Int32) → (Nat → Int32) → Prop) : Prop :=
  vp_in (0 : Int32) 207 ∧ (vp_in ((1 : Int32) + (zz ((0 : Int32)).toNatClampNeg)) 207 ∧ (vp_in (0 : Int32) 207 ∧ (vp_in (0 : Int32) 207 ∧ (wp_X6_layNow wid hei (upd (upd zz (((1 : Int32) + (zz ((0 : Int32)).toNatClampNeg))).toNatClampNeg x1) ((0 : Int32)).toNatClampNeg (((upd zz (((1 : Int32) + (zz ((0 : Int32)).toNatClampNeg))).toNatClampNeg x1) ((0 : Int32)).toNatClampNeg) + (1 : Int32))) stk laid (fun wid__1 hei__2 stk__3 laid__4 => wp_X6_layers wid__1 hei__2 (fun r_5 => post r_5 wid__1 hei__2 (upd (upd zz (((1 : Int32) + (zz ((0 : Int32)).toNatClampNeg))).toNatClampNeg x1) ((0 : Int32)).toNatClampNeg (((upd zz (((1 : Int32) + (zz ((0 : Int32)).toNatClampNeg))).toNatClampNeg x1) ((0 : Int32)).toNatClampNeg) + (1 : Int32))) stk__3 laid__4))))))
def wp_X6_fold (pastMany : Int32) (wid : Int32) (hei : Int32) (zz : Nat → Int32) (past : Nat → Int32) (stk : Nat → Int32) (laid : Nat → Int32) (x1 : Int32) (post : Int32 → Int32 → Int32 → Int32 → (Nat → Int32) → (Nat → Int32) → (Nat → Int32) → (Nat → Int32) → Prop) : Prop :=
  wp_X6_whyNotFold wid hei zz stk laid x1 (fun r_1 wid__2 hei__3 stk__4 laid__5 => ((0 ≤ r_1) → wp_X6_record pastMany zz past (fun pastMany__6 past__7 => wp_X6_folds wid__2 hei__3 zz stk__4 laid__5 x1 (fun r_8 wid__9 hei__10 zz__11 stk__12 laid__13 => post r_8 pastMany__6 wid__9 hei__10 zz__11 past__7 stk__12 laid__13))) ∧ ((¬ 0 ≤ r_1) → post r_1 pastMany wid__2 hei__3 zz past stk__4 laid__5))
def wp_X6_unfolds (zz : Nat → Int32) (post : Int32 → (Nat → Int32) → Prop) : Prop :=
  vp_in (0 : Int32) 207 ∧ (vp_in (0 : Int32) 207 ∧ (vp_in (0 : Int32) 207 ∧ (vp_in ((1 : Int32) + ((upd zz ((0 : Int32)).toNatClampNeg ((zz ((0 : Int32)).toNatClampNeg) - (1 : Int32))) ((0 : Int32)).toNatClampNeg)) 207 ∧ (∀ w1_1 : Int32, w1_1 = ((upd zz ((0 : Int32)).toNatClampNeg ((zz ((0 : Int32)).toNatClampNeg) - (1 : Int32))) (((1 : Int32) + ((upd zz ((0 : Int32)).toNatClampNeg ((zz ((0 : Int32)).toNatClampNeg) - (1 : Int32))) ((0 : Int32)).toNatClampNeg))).toNatClampNeg) → vp_in (0 : Int32) 207 ∧ (vp_in ((1 : Int32) + ((upd zz ((0 : Int32)).toNatClampNeg ((zz ((0 : Int32)).toNatClampNeg) - (1 : Int32))) ((0 : Int32)).toNatClampNeg)) 207 ∧ (post w1_1 (upd (upd zz ((0 : Int32)).toNatClampNeg ((zz ((0 : Int32)).toNatClampNeg) - (1 : Int32))) (((1 : Int32) + ((upd zz ((0 : Int32)).toNatClampNeg ((zz ((0 : Int32)).toNatClampNeg) - (1 : Int32))) ((0 : Int32)).toNatClampNeg))).toNatClampNeg (0 : Int32))))))))
def wp_X6_unfold (pastMany : Int32) (zz : Nat → Int32) (past : Nat → Int32) (post : Int32 → Int32 → (Nat → Int32) → (Nat → Int32) → Prop) : Prop :=
  vp_in (0 : Int32) 207 ∧ (((¬ (zz ((0 : Int32)).toNatClampNeg) = 0) → wp_X6_record pastMany zz past (fun pastMany__1 past__2 => wp_X6_unfolds zz (fun r_3 zz__4 => post r_3 pastMany__1 zz__4 past__2))) ∧ (((zz ((0 : Int32)).toNatClampNeg) = 0) → post (-3 : Int32) pastMany zz past))
def wp_X6_open (pastMany : Int32) (zz : Nat → Int32) (past : Nat → Int32) (post : Int32 → Int32 → (Nat → Int32) → (Nat → Int32) → Prop) : Prop :=
  wp_X6_record pastMany zz past (fun pastMany__1 past__2 => vp_in (0 : Int32) 207 ∧ (∀ w1_3 : Int32, w1_3 = (zz ((0 : Int32)).toNatClampNeg) → ∀ (P11 : (Nat → Int32) → Prop), (∀ (zz__4 : Nat → Int32), (vp_in (0 : Int32) 207 ∧ ((((zz__4 ((0 : Int32)).toNatClampNeg) ≤ 0) → post w1_3 pastMany__1 zz__4 past__2) ∧ ((¬ (zz__4 ((0 : Int32)).toNatClampNeg) ≤ 0) → wp_X6_unfolds zz__4 (fun r_5 zz__6 => P11 zz__6)))) → P11 zz__4) → P11 zz))
def wp_X6_size (wid : Int32) (hei : Int32) (zz : Nat → Int32) (stk : Nat → Int32) (laid : Nat → Int32) (x1 : Int32) (post : Int32 → Int32 → Int32 → (Nat → Int32) → (Nat → Int32) → Prop) : Prop :=
  wp_X6_layNow wid hei zz stk laid (fun wid__1 hei__2 stk__3 laid__4 => ((x1.toInt < (0) ∨ (3) < x1.toInt) → post (-2 : Int32) wid__1 hei__2 stk__3 laid__4) ∧ (x1 = (0 : Int32) → post wid__1 wid__1 hei__2 stk__3 laid__4) ∧ (x1 = (1 : Int32) → post hei__2 wid__1 hei__2 stk__3 laid__4) ∧ (x1 = (2 : Int32) → wp_X6_layers wid__1 hei__2 (fun r_5 => post r_5 wid__1 hei__2 stk__3 laid__4)) ∧ (x1 = (3 : Int32) → vp_in (0 : Int32) 207 ∧ (post (zz ((0 : Int32)).toNatClampNeg) wid__1 hei__2 stk__3 laid__4)))
def wp_X6_foldAt (zz : Nat → Int32) (x1 : Int32) (post : Int32 → Prop) : Prop :=
  vp_in (0 : Int32) 207 ∧ (wp_X6_in x1 (0 : Int32) ((zz ((0 : Int32)).toNatClampNeg) - (1 : Int32)) (fun r_1 => ((r_1 = 0) → post (-1 : Int32)) ∧ ((¬ r_1 = 0) → vp_in ((1 : Int32) + x1) 207 ∧ (post (zz (((1 : Int32) + x1)).toNatClampNeg)))))
def wp_X6_whyNotPunch (wid : Int32) (hei : Int32) (zz : Nat → Int32) (stk : Nat → Int32) (laid : Nat → Int32) (x1 : Int32) (x2 : Int32) (x3 : Int32) (post : Int32 → Int32 → Int32 → (Nat → Int32) → (Nat → Int32) → Prop) : Prop :=
  wp_X6_top wid hei zz stk laid x1 x2 (fun r_1 wid__2 hei__3 stk__4 laid__5 => ((¬ r_1 = (-6 : Int32)) → wp_X6_layers wid__2 hei__3 (fun r_6 => wp_X6_in x3 (1 : Int32) r_6 (fun r_7 => ((r_7 = 0) → post (-2 : Int32) wid__2 hei__3 stk__4 laid__5) ∧ ((¬ r_7 = 0) → post (0 : Int32) wid__2 hei__3 stk__4 laid__5)))) ∧ ((r_1 = (-6 : Int32)) → post (-1 : Int32) wid__2 hei__3 stk__4 laid__5))
def wp_X6_makesHoles (wid : Int32) (hei : Int32) (zz : Nat → Int32) (stk : Nat → Int32) (laid : Nat → Int32) (x1 : Int32) (x2 : Int32) (x3 : Int32) (post : Int32 → Int32 → Int32 → (Nat → Int32) → (Nat → Int32) → (Nat → Int32) → Prop) : Prop :=
  wp_X6_top wid hei zz stk laid x1 x2 (fun r_1 wid__2 hei__3 stk__4 laid__5 => ∀ (P14 : Int32 → Int32 → (Nat → Int32) → Prop), (∀ (v5_6 : Int32) (v6_7 : Int32) (zz__8 : Nat → Int32), (((x3 ≤ v6_7) → post v5_6 wid__2 hei__3 zz__8 stk__4 laid__5) ∧ ((¬ x3 ≤ v6_7) → vp_in (r_1 + v6_7) 64 ∧ (∀ w7_9 : Int32, w7_9 = ((stk__4 ((r_1 + v6_7)).toNatClampNeg) / (2 : Int32)) → vp_in ((7 : Int32) + w7_9) 207 ∧ (∀ (P54 : Int32 → Prop), (∀ (t_10 : Int32), (∀ w5_11 : Int32, w5_11 = (v5_6 + t_10) → vp_in ((7 : Int32) + w7_9) 207 ∧ (P14 w5_11 (v6_7 + (1 : Int32)) (upd zz__8 (((7 : Int32) + w7_9)).toNatClampNeg (1 : Int32)))) → P54 t_10) → ((¬ (zz__8 (((7 : Int32) + w7_9)).toNatClampNeg) = 0) → P54 (0 : Int32)) ∧ (((zz__8 (((7 : Int32) + w7_9)).toNatClampNeg) = 0) → P54 (1 : Int32)))))) → P14 v5_6 v6_7 zz__8) → P14 (0 : Int32) (0 : Int32) zz)
def wp_X6_punch (pastMany : Int32) (wid : Int32) (hei : Int32) (zz : Nat → Int32) (past : Nat → Int32) (stk : Nat → Int32) (laid : Nat → Int32) (x1 : Int32) (x2 : Int32) (x3 : Int32) (post : Int32 → Int32 → Int32 → Int32 → (Nat → Int32) → (Nat → Int32) → (Nat → Int32) → (Nat → Int32) → Prop) : Prop :=
  wp_X6_whyNotPunch wid hei zz stk laid x1 x2 x3 (fun r_1 wid__2 hei__3 stk__4 laid__5 => ((0 ≤ r_1) → wp_X6_record pastMany zz past (fun pastMany__6 past__7 => wp_X6_makesHoles wid__2 hei__3 zz stk__4 laid__5 x1 x2 x3 (fun r_8 wid__9 hei__10 zz__11 stk__12 laid__13 => post r_8 pastMany__6 wid__9 hei__10 zz__11 past__7 stk__12 laid__13))) ∧ ((¬ 0 ≤ r_1) → post r_1 pastMany wid__2 hei__3 zz past stk__4 laid__5))
set_option maxHeartbeats 4000000 in
set_option maxRecDepth 100000 in
theorem c_X6_in (l : Launch) (dC : Nat → ClassId) (dI : Nat → Nat → Nat) (cI cC cS : ClassId) (sz : Nat) (x0 : Int32) (x1 : Int32) (x2 : Int32) {post : Int32 → Prop} (hq : wp_X6_in x0 x1 x2 post) : Met l yX6_in wsX6_in ({ frames := 0, cells := 0, slots := 0, locals := 0 } : Room) (gn_Pre (dC, dI) cI cC cS [.int x0, .int x1, .int x2] sz []) (va_Qi (fun (r : Int32) (u : Unit) => post r) (fun (u : Unit) t => va_P (dC, dI) vwCl [] t.heap ∧ va_K (dC, dI) vwCl (gn_tys cI cC cS) t ∧ va_D (va_A [] sz) []) (va_A [] sz)) 0 0 (va_A [] sz) := by
  unfold wp_X6_in at hq
  refine Met.ofW (cc := cX6_in) (maxL := 3) (ret := (some .boolean)) (by decide) rfl ?_
  intro p e s m args below meth c s₁ B hml hv
  obtain ⟨rfl, hsz, hP, hK, hN, hD0⟩ := hv
  have hx := B.exec
  have hb := B.bytes
  have hr := B.returns
  have hts := atoms_spec (ws := wsX6_in) B.pre
  have hown : s.vm.findClass RX6 = some m.cls := findClass_of_methodNamed B.named
  have hlocks := B.notSynchronized
  subst hsz
  have hD := hD0.self (sz := s.heap.size)
  generalize hAe : va_A [] s.heap.size = A at hD ⊢
  have hA : ∀ q : Nat, s.heap.size ≤ q → A q := fun q h => by rw [← hAe]; exact Or.inr h
  have hS : va_S A s.heap s.heap [] := va_S.rf
  have hl := lv_entry ([.int x0, .int x1, .int x2] : List Value) (n := 3) (Nat.le_of_ble_eq_true rfl)
  rw [lg_entry_eq]
  generalize (lg_sl ([.int x0, .int x1, .int x2] : List Value) ++ List.replicate (3 - (lg_sl ([.int x0, .int x1, .int x2] : List Value)).length) Slot.unset).toArray = ls at hl ⊢
  have hl : lv_has ls 3 [(0, .int x0), (1, .int x1), (2, .int x2)] := hl
  refine gn_Q (hret := fun Q => ∀ (pc : Nat) (ls : Array Slot) (H : Heap) (locs : List Loc) (r : Int32) , decode cX6_in pc = .ok (.ireturn, 1) → va_P (dC, dI) vwCl [] H → va_D A [] → va_S A s.heap H locs → (r = 0 ∨ r = 1) → post r → W p l e ({ frames := 0, cells := 0, slots := 0, locals := 0 } : Room) s m ([.int x0, .int x1, .int x2] : List Value).toArray below meth c H locs 0 0 Q (F0 m pc ls [.int r])) (fun Q hret => ?_) ?_
  rotate_left
  · intro pc ls H locs r hdg hP hD hS hz hpost
    exact W.zret (v := r) hx hb hr (gn_nz hz) (fun t ht hW => ⟨⟨r, (), rfl, hpost, by rw [ht]; exact hP, va_K.moved hW.alike hK, hD⟩, hS.F ht⟩) hS.2.2 hdg
  refine lv_iload_n hx hb dX6_in_0 rfl (lv_at hl 0 rfl) ?_
  refine lv_iload_n hx hb dX6_in_1 rfl (lv_at hl 1 rfl) ?_
  have hq := hq (∀ (H : Heap) (locs : List Loc) (ls : Array Slot), va_P (dC, dI) vwCl [] H → va_D A [] → va_S A s.heap H locs → lv_has ls 3 [] → W p l e ({ frames := 0, cells := 0, slots := 0, locals := 0 } : Room) s m ([.int x0, .int x1, .int x2] : List Value).toArray below meth c H locs 0 0 Q (F0 m 14 ls [])) (by
    intro  hq H locs ls hP hD hS hl
    refine lv_iconst (v := 0) hx hb dX6_in_14 (by decide) ?_
    have hz := hq.1
    have hq := hq.2
    exact hret _ _ _ _ _ dX6_in_15 hP hD hS hz hq)
  refine lv_icmp_lt (tgt := 14) hx hb dX6_in_2 (by decide) (fun hc => ?_) (fun hc => ?_)
  · have hq := hq.1 hc
    exact hq _ _ _ hP hD hS (lv_sub hl [] rfl)
  · have hq := hq.2 hc
    refine lv_iload_n hx hb dX6_in_5 rfl (lv_at hl 0 rfl) ?_
    refine lv_iload_n hx hb dX6_in_6 rfl (lv_at hl 2 rfl) ?_
    refine lv_icmp_gt (tgt := 14) hx hb dX6_in_7 (by decide) (fun hc => ?_) (fun hc => ?_)
    · have hq := hq.1 hc
      exact hq _ _ _ hP hD hS (lv_sub hl [] rfl)
    · have hq := hq.2 hc
      refine lv_iconst (v := 1) hx hb dX6_in_10 (by decide) ?_
      refine lv_goto (tgt := 15) hx hb dX6_in_11 (by decide) ?_
      have hz := hq.1
      have hq := hq.2
      exact hret _ _ _ _ _ dX6_in_15 hP hD hS hz hq
set_option maxHeartbeats 4000000 in
set_option maxRecDepth 100000 in
theorem c_X6_field (l : Launch) (dC : Nat → ClassId) (dI : Nat → Nat → Nat) (cI cC cS : ClassId) (sz : Nat) (x0 : Int32) (x1 : Int32) (x2 : Int32) {post : Int32 → Prop} (hq : wp_X6_field x0 x1 x2 post) : Met l yX6_field wsX6_field ({ frames := 0, cells := 0, slots := 0, locals := 0 } : Room) (gn_Pre (dC, dI) cI cC cS [.int x0, .int x1, .int x2] sz []) (va_Qi (fun (r : Int32) (u : Unit) => post r) (fun (u : Unit) t => va_P (dC, dI) vwCl [] t.heap ∧ va_K (dC, dI) vwCl (gn_tys cI cC cS) t ∧ va_D (va_A [] sz) []) (va_A [] sz)) 0 0 (va_A [] sz) := by
  unfold wp_X6_field at hq
  refine Met.ofW (cc := cX6_field) (maxL := 3) (ret := (some .int)) (by decide) rfl ?_
  intro p e s m args below meth c s₁ B hml hv
  obtain ⟨rfl, hsz, hP, hK, hN, hD0⟩ := hv
  have hx := B.exec
  have hb := B.bytes
  have hr := B.returns
  have hts := atoms_spec (ws := wsX6_field) B.pre
  have hown : s.vm.findClass RX6 = some m.cls := findClass_of_methodNamed B.named
  have hlocks := B.notSynchronized
  subst hsz
  have hD := hD0.self (sz := s.heap.size)
  generalize hAe : va_A [] s.heap.size = A at hD ⊢
  have hA : ∀ q : Nat, s.heap.size ≤ q → A q := fun q h => by rw [← hAe]; exact Or.inr h
  have hS : va_S A s.heap s.heap [] := va_S.rf
  have hl := lv_entry ([.int x0, .int x1, .int x2] : List Value) (n := 3) (Nat.le_of_ble_eq_true rfl)
  rw [lg_entry_eq]
  generalize (lg_sl ([.int x0, .int x1, .int x2] : List Value) ++ List.replicate (3 - (lg_sl ([.int x0, .int x1, .int x2] : List Value)).length) Slot.unset).toArray = ls at hl ⊢
  have hl : lv_has ls 3 [(0, .int x0), (1, .int x1), (2, .int x2)] := hl
  refine gn_Q (hret := fun Q => ∀ (pc : Nat) (ls : Array Slot) (H : Heap) (locs : List Loc) (r : Int32) , decode cX6_field pc = .ok (.ireturn, 1) → va_P (dC, dI) vwCl [] H → va_D A [] → va_S A s.heap H locs → post r → W p l e ({ frames := 0, cells := 0, slots := 0, locals := 0 } : Room) s m ([.int x0, .int x1, .int x2] : List Value).toArray below meth c H locs 0 0 Q (F0 m pc ls [.int r])) (fun Q hret => ?_) ?_
  rotate_left
  · intro pc ls H locs r hdg hP hD hS hpost
    exact W.iret (v := r) hx hb hr (fun t ht hW => ⟨⟨r, (), rfl, hpost, by rw [ht]; exact hP, va_K.moved hW.alike hK, hD⟩, hS.F ht⟩) hS.2.2 hdg
  refine lv_iload_n hx hb dX6_field_0 rfl (lv_at hl 1 rfl) ?_
  refine lv_iload_n hx hb dX6_field_1 rfl (lv_at hl 2 rfl) ?_
  refine lv_imul hx hb dX6_field_2 ?_
  refine lv_iload_n hx hb dX6_field_3 rfl (lv_at hl 0 rfl) ?_
  refine lv_iadd hx hb dX6_field_4 ?_
  exact hret _ _ _ _ _ dX6_field_5 hP hD hS hq
set_option maxHeartbeats 4000000 in
set_option maxRecDepth 100000 in
theorem c_X6_turned (l : Launch) (dC : Nat → ClassId) (dI : Nat → Nat → Nat) (cI cC cS : ClassId) (sz : Nat) (x0 : Int32) {post : Int32 → Prop} (hq : wp_X6_turned x0 post) : Met l yX6_turned wsX6_turned ({ frames := 0, cells := 0, slots := 0, locals := 0 } : Room) (gn_Pre (dC, dI) cI cC cS [.int x0] sz []) (va_Qi (fun (r : Int32) (u : Unit) => post r) (fun (u : Unit) t => va_P (dC, dI) vwCl [] t.heap ∧ va_K (dC, dI) vwCl (gn_tys cI cC cS) t ∧ va_D (va_A [] sz) []) (va_A [] sz)) 0 0 (va_A [] sz) := by
  unfold wp_X6_turned at hq
  refine Met.ofW (cc := cX6_turned) (maxL := 1) (ret := (some .int)) (by decide) rfl ?_
  intro p e s m args below meth c s₁ B hml hv
  obtain ⟨rfl, hsz, hP, hK, hN, hD0⟩ := hv
  have hx := B.exec
  have hb := B.bytes
  have hr := B.returns
  have hts := atoms_spec (ws := wsX6_turned) B.pre
  have hown : s.vm.findClass RX6 = some m.cls := findClass_of_methodNamed B.named
  have hlocks := B.notSynchronized
  subst hsz
  have hD := hD0.self (sz := s.heap.size)
  generalize hAe : va_A [] s.heap.size = A at hD ⊢
  have hA : ∀ q : Nat, s.heap.size ≤ q → A q := fun q h => by rw [← hAe]; exact Or.inr h
  have hS : va_S A s.heap s.heap [] := va_S.rf
  have hl := lv_entry ([.int x0] : List Value) (n := 1) (Nat.le_of_ble_eq_true rfl)
  rw [lg_entry_eq]
  generalize (lg_sl ([.int x0] : List Value) ++ List.replicate (1 - (lg_sl ([.int x0] : List Value)).length) Slot.unset).toArray = ls at hl ⊢
  have hl : lv_has ls 1 [(0, .int x0)] := hl
  refine gn_Q (hret := fun Q => ∀ (pc : Nat) (ls : Array Slot) (H : Heap) (locs : List Loc) (r : Int32) , decode cX6_turned pc = .ok (.ireturn, 1) → va_P (dC, dI) vwCl [] H → va_D A [] → va_S A s.heap H locs → post r → W p l e ({ frames := 0, cells := 0, slots := 0, locals := 0 } : Room) s m ([.int x0] : List Value).toArray below meth c H locs 0 0 Q (F0 m pc ls [.int r])) (fun Q hret => ?_) ?_
  rotate_left
  · intro pc ls H locs r hdg hP hD hS hpost
    exact W.iret (v := r) hx hb hr (fun t ht hW => ⟨⟨r, (), rfl, hpost, by rw [ht]; exact hP, va_K.moved hW.alike hK, hD⟩, hS.F ht⟩) hS.2.2 hdg
  refine lv_iload_n hx hb dX6_turned_0 rfl (lv_at hl 0 rfl) ?_
  refine lv_iconst (v := 2) hx hb dX6_turned_1 (by decide) ?_
  refine lv_irem hx hb dX6_turned_2 (by decide) ?_
  refine lv_if_ne (tgt := 12) hx hb dX6_turned_3 (by decide) (fun hc => ?_) (fun hc => ?_)
  · have hq := hq.1 hc
    refine lv_iload_n hx hb dX6_turned_12 rfl (lv_at hl 0 rfl) ?_
    refine lv_iconst (v := 1) hx hb dX6_turned_13 (by decide) ?_
    refine lv_isub hx hb dX6_turned_14 ?_
    exact hret _ _ _ _ _ dX6_turned_15 hP hD hS hq
  · have hq := hq.2 hc
    refine lv_iload_n hx hb dX6_turned_6 rfl (lv_at hl 0 rfl) ?_
    refine lv_iconst (v := 1) hx hb dX6_turned_7 (by decide) ?_
    refine lv_iadd hx hb dX6_turned_8 ?_
    refine lv_goto (tgt := 15) hx hb dX6_turned_9 (by decide) ?_
    exact hret _ _ _ _ _ dX6_turned_15 hP hD hS hq
set_option maxRecDepth 20000 in
theorem kwX6_layers_46 : Cond.fieldLink RX6 46 "PunchedFoldsModel" "width" "I" ∈ wsX6_layers := by decide +kernel
set_option maxRecDepth 20000 in
theorem iwX6_layers_X6 : ∀ w ∈ wsX60, w ∈ wsX6_layers := by decide +kernel
set_option maxRecDepth 20000 in
theorem kwX6_layers_49 : Cond.fieldLink RX6 49 "PunchedFoldsModel" "height" "I" ∈ wsX6_layers := by decide +kernel
set_option maxHeartbeats 4000000 in
set_option maxRecDepth 100000 in
theorem c_X6_layers (l : Launch) (dC : Nat → ClassId) (dI : Nat → Nat → Nat) (cI cC cS : ClassId) (aM : Nat) (aZ : Nat) (aPast : Nat) (aKz : Nat) (aBuf : Nat) (aStk : Nat) (aLaid : Nat) (aPcs : Nat) (aTold : Nat) (sz : Nat) (pastMany : Int32) (isKept : Int32) (typed : Int32) (wid : Int32) (hei : Int32) (toldMany : Int32) (spot : Int32) (wrong : Int32) {post : Int32 → Prop} (hq : wp_X6_layers wid hei post) : Met l yX6_layers wsX6_layers ({ frames := 0, cells := 0, slots := 0, locals := 0 } : Room) (gn_Pre (dC, dI) cI cC cS [.ref aM] sz [(aM, .inr (5, [.ref aZ, .ref aPast, .int pastMany, .ref aKz, .int isKept, .ref aBuf, .int typed, .ref aStk, .ref aLaid, .int wid, .int hei, .ref aPcs, .ref aTold, .int toldMany, .int spot, .int wrong]))]) (va_Qi (fun (r : Int32) (u : Unit) => post r) (fun (u : Unit) t => va_P (dC, dI) vwCl [(aM, .inr (5, [.ref aZ, .ref aPast, .int pastMany, .ref aKz, .int isKept, .ref aBuf, .int typed, .ref aStk, .ref aLaid, .int wid, .int hei, .ref aPcs, .ref aTold, .int toldMany, .int spot, .int wrong]))] t.heap ∧ va_K (dC, dI) vwCl (gn_tys cI cC cS) t ∧ va_D (va_A [(aM, .inr (5, [.ref aZ, .ref aPast, .int pastMany, .ref aKz, .int isKept, .ref aBuf, .int typed, .ref aStk, .ref aLaid, .int wid, .int hei, .ref aPcs, .ref aTold, .int toldMany, .int spot, .int wrong]))] sz) [(aM, .inr (5, [.ref aZ, .ref aPast, .int pastMany, .ref aKz, .int isKept, .ref aBuf, .int typed, .ref aStk, .ref aLaid, .int wid, .int hei, .ref aPcs, .ref aTold, .int toldMany, .int spot, .int wrong]))]) (va_A [(aM, .inr (5, [.ref aZ, .ref aPast, .int pastMany, .ref aKz, .int isKept, .ref aBuf, .int typed, .ref aStk, .ref aLaid, .int wid, .int hei, .ref aPcs, .ref aTold, .int toldMany, .int spot, .int wrong]))] sz)) 0 0 (va_A [(aM, .inr (5, [.ref aZ, .ref aPast, .int pastMany, .ref aKz, .int isKept, .ref aBuf, .int typed, .ref aStk, .ref aLaid, .int wid, .int hei, .ref aPcs, .ref aTold, .int toldMany, .int spot, .int wrong]))] sz) := by
  unfold wp_X6_layers at hq
  refine Met.ofW (cc := cX6_layers) (maxL := 1) (ret := (some .int)) (by decide) rfl ?_
  intro p e s m args below meth c s₁ B hml hv
  obtain ⟨rfl, hsz, hP, hK, hN, hD0⟩ := hv
  have hx := B.exec
  have hb := B.bytes
  have hr := B.returns
  have hts := atoms_spec (ws := wsX6_layers) B.pre
  have hown : s.vm.findClass RX6 = some m.cls := findClass_of_methodNamed B.named
  have hlocks := B.notSynchronized
  subst hsz
  have hD := hD0.self (sz := s.heap.size)
  generalize hAe : va_A [(aM, .inr (5, [.ref aZ, .ref aPast, .int pastMany, .ref aKz, .int isKept, .ref aBuf, .int typed, .ref aStk, .ref aLaid, .int wid, .int hei, .ref aPcs, .ref aTold, .int toldMany, .int spot, .int wrong]))] s.heap.size = A at hD ⊢
  have hA : ∀ q : Nat, s.heap.size ≤ q → A q := fun q h => by rw [← hAe]; exact Or.inr h
  have hS : va_S A s.heap s.heap [] := va_S.rf
  have hl := lv_entry ([.ref aM] : List Value) (n := 1) (Nat.le_of_ble_eq_true rfl)
  rw [lg_entry_eq]
  generalize (lg_sl ([.ref aM] : List Value) ++ List.replicate (1 - (lg_sl ([.ref aM] : List Value)).length) Slot.unset).toArray = ls at hl ⊢
  have hl : lv_has ls 1 [(0, .ref aM)] := hl
  refine gn_Q (hret := fun Q => ∀ (pc : Nat) (ls : Array Slot) (H : Heap) (locs : List Loc) (r : Int32) , decode cX6_layers pc = .ok (.ireturn, 1) → va_P (dC, dI) vwCl [(aM, .inr (5, [.ref aZ, .ref aPast, .int pastMany, .ref aKz, .int isKept, .ref aBuf, .int typed, .ref aStk, .ref aLaid, .int wid, .int hei, .ref aPcs, .ref aTold, .int toldMany, .int spot, .int wrong]))] H → va_D A [(aM, .inr (5, [.ref aZ, .ref aPast, .int pastMany, .ref aKz, .int isKept, .ref aBuf, .int typed, .ref aStk, .ref aLaid, .int wid, .int hei, .ref aPcs, .ref aTold, .int toldMany, .int spot, .int wrong]))] → va_S A s.heap H locs → post r → W p l e ({ frames := 0, cells := 0, slots := 0, locals := 0 } : Room) s m ([.ref aM] : List Value).toArray below meth c H locs 0 0 Q (F0 m pc ls [.int r])) (fun Q hret => ?_) ?_
  rotate_left
  · intro pc ls H locs r hdg hP hD hS hpost
    exact W.iret (v := r) hx hb hr (fun t ht hW => ⟨⟨r, (), rfl, hpost, by rw [ht]; exact hP, va_K.moved hW.alike hK, hD⟩, hS.F ht⟩) hS.2.2 hdg
  refine lv_bipush (v := 64) hx hb dX6_layers_0 (by decide) ?_
  refine lv_aload_n hx hb dX6_layers_2 rfl (lv_at hl 0 rfl) ?_
  refine va_get (D := (dC, dI)) (ci := 5) (v := .int wid) (C := RX6) (T := TX6) (N := 16) hx hb hts iwX6_layers_X6 hown hK hP 0 rfl rfl 9 (by decide) (hts _ kwX6_layers_46) (fun _ h9 => h9) rfl dX6_layers_3 ?_
  refine lv_aload_n hx hb dX6_layers_6 rfl (lv_at hl 0 rfl) ?_
  refine va_get (D := (dC, dI)) (ci := 5) (v := .int hei) (C := RX6) (T := TX6) (N := 16) hx hb hts iwX6_layers_X6 hown hK hP 0 rfl rfl 10 (by decide) (hts _ kwX6_layers_49) (fun _ h9 => h9) rfl dX6_layers_7 ?_
  refine lv_imul hx hb dX6_layers_10 ?_
  have hz := hq.1
  have hq := hq.2
  refine lv_idiv hx hb dX6_layers_11 hz ?_
  exact hret _ _ _ _ _ dX6_layers_12 hP hD hS hq
set_option maxRecDepth 20000 in
theorem kwX6_record_35 : Cond.fieldLink RX6 35 "PunchedFoldsModel" "pastMany" "I" ∈ wsX6_record := by decide +kernel
set_option maxRecDepth 20000 in
theorem iwX6_record_X6 : ∀ w ∈ wsX60, w ∈ wsX6_record := by decide +kernel
set_option maxRecDepth 20000 in
theorem kwX6_record_13 : Cond.fieldLink RX6 13 "PunchedFoldsModel" "past" "[I" ∈ wsX6_record := by decide +kernel
set_option maxRecDepth 20000 in
theorem kwX6_record_7 : Cond.fieldLink RX6 7 "PunchedFoldsModel" "z" "[I" ∈ wsX6_record := by decide +kernel
set_option maxHeartbeats 4000000 in
set_option maxRecDepth 100000 in
theorem c_X6_record (l : Launch) (dC : Nat → ClassId) (dI : Nat → Nat → Nat) (cI cC cS : ClassId) (aM : Nat) (aZ : Nat) (aPast : Nat) (aKz : Nat) (aBuf : Nat) (aStk : Nat) (aLaid : Nat) (aPcs : Nat) (aTold : Nat) (sz : Nat) (pastMany : Int32) (isKept : Int32) (typed : Int32) (wid : Int32) (hei : Int32) (toldMany : Int32) (spot : Int32) (wrong : Int32) (zz : Nat → Int32) (past : Nat → Int32) {post : Int32 → (Nat → Int32) → Prop} (hq : wp_X6_record pastMany zz past post) : Met l yX6_record wsX6_record ({ frames := 0, cells := 0, slots := 0, locals := 0 } : Room) (gn_Pre (dC, dI) cI cC cS [.ref aM] sz [(aM, .inr (5, [.ref aZ, .ref aPast, .int pastMany, .ref aKz, .int isKept, .ref aBuf, .int typed, .ref aStk, .ref aLaid, .int wid, .int hei, .ref aPcs, .ref aTold, .int toldMany, .int spot, .int wrong])), (aZ, .inl (cI, 207, .inl zz)), (aPast, .inl (cI, 1035, .inl past))]) (va_Qv (fun (u : Int32 × (Nat → Int32)) => post u.1 u.2) (fun (u : Int32 × (Nat → Int32)) t => va_P (dC, dI) vwCl [(aM, .inr (5, [.ref aZ, .ref aPast, .int u.1, .ref aKz, .int isKept, .ref aBuf, .int typed, .ref aStk, .ref aLaid, .int wid, .int hei, .ref aPcs, .ref aTold, .int toldMany, .int spot, .int wrong])), (aZ, .inl (cI, 207, .inl zz)), (aPast, .inl (cI, 1035, .inl u.2))] t.heap ∧ va_K (dC, dI) vwCl (gn_tys cI cC cS) t ∧ va_D (va_A [(aM, .inr (5, [.ref aZ, .ref aPast, .int pastMany, .ref aKz, .int isKept, .ref aBuf, .int typed, .ref aStk, .ref aLaid, .int wid, .int hei, .ref aPcs, .ref aTold, .int toldMany, .int spot, .int wrong])), (aZ, .inl (cI, 207, .inl zz)), (aPast, .inl (cI, 1035, .inl past))] sz) [(aM, .inr (5, [.ref aZ, .ref aPast, .int u.1, .ref aKz, .int isKept, .ref aBuf, .int typed, .ref aStk, .ref aLaid, .int wid, .int hei, .ref aPcs, .ref aTold, .int toldMany, .int spot, .int wrong])), (aZ, .inl (cI, 207, .inl zz)), (aPast, .inl (cI, 1035, .inl u.2))]) (va_A [(aM, .inr (5, [.ref aZ, .ref aPast, .int pastMany, .ref aKz, .int isKept, .ref aBuf, .int typed, .ref aStk, .ref aLaid, .int wid, .int hei, .ref aPcs, .ref aTold, .int toldMany, .int spot, .int wrong])), (aZ, .inl (cI, 207, .inl zz)), (aPast, .inl (cI, 1035, .inl past))] sz)) 0 0 (va_A [(aM, .inr (5, [.ref aZ, .ref aPast, .int pastMany, .ref aKz, .int isKept, .ref aBuf, .int typed, .ref aStk, .ref aLaid, .int wid, .int hei, .ref aPcs, .ref aTold, .int toldMany, .int spot, .int wrong])), (aZ, .inl (cI, 207, .inl zz)), (aPast, .inl (cI, 1035, .inl past))] sz) := by
  unfold wp_X6_record at hq
  refine Met.ofW (cc := cX6_record) (maxL := 2) (ret := none) (by decide) rfl ?_
  intro p e s m args below meth c s₁ B hml hv
  obtain ⟨rfl, hsz, hP, hK, hN, hD0⟩ := hv
  have hx := B.exec
  have hb := B.bytes
  have hr := B.returns
  have hts := atoms_spec (ws := wsX6_record) B.pre
  have hown : s.vm.findClass RX6 = some m.cls := findClass_of_methodNamed B.named
  have hlocks := B.notSynchronized
  subst hsz
  have hD := hD0.self (sz := s.heap.size)
  generalize hAe : va_A [(aM, .inr (5, [.ref aZ, .ref aPast, .int pastMany, .ref aKz, .int isKept, .ref aBuf, .int typed, .ref aStk, .ref aLaid, .int wid, .int hei, .ref aPcs, .ref aTold, .int toldMany, .int spot, .int wrong])), (aZ, .inl (cI, 207, .inl zz)), (aPast, .inl (cI, 1035, .inl past))] s.heap.size = A at hD ⊢
  have hA : ∀ q : Nat, s.heap.size ≤ q → A q := fun q h => by rw [← hAe]; exact Or.inr h
  have hS : va_S A s.heap s.heap [] := va_S.rf
  have hl := lv_entry ([.ref aM] : List Value) (n := 2) (Nat.le_of_ble_eq_true rfl)
  rw [lg_entry_eq]
  generalize (lg_sl ([.ref aM] : List Value) ++ List.replicate (2 - (lg_sl ([.ref aM] : List Value)).length) Slot.unset).toArray = ls at hl ⊢
  have hl : lv_has ls 2 [(0, .ref aM)] := hl
  refine gn_Q (hret := fun Q => ∀ (pc : Nat) (ls : Array Slot) (H : Heap) (locs : List Loc) (m_pastMany : Int32) (m_past : Nat → Int32), decode cX6_record pc = .ok (.return_, 1) → va_P (dC, dI) vwCl [(aM, .inr (5, [.ref aZ, .ref aPast, .int m_pastMany, .ref aKz, .int isKept, .ref aBuf, .int typed, .ref aStk, .ref aLaid, .int wid, .int hei, .ref aPcs, .ref aTold, .int toldMany, .int spot, .int wrong])), (aZ, .inl (cI, 207, .inl zz)), (aPast, .inl (cI, 1035, .inl m_past))] H → va_D A [(aM, .inr (5, [.ref aZ, .ref aPast, .int m_pastMany, .ref aKz, .int isKept, .ref aBuf, .int typed, .ref aStk, .ref aLaid, .int wid, .int hei, .ref aPcs, .ref aTold, .int toldMany, .int spot, .int wrong])), (aZ, .inl (cI, 207, .inl zz)), (aPast, .inl (cI, 1035, .inl m_past))] → va_S A s.heap H locs → post m_pastMany m_past → W p l e ({ frames := 0, cells := 0, slots := 0, locals := 0 } : Room) s m ([.ref aM] : List Value).toArray below meth c H locs 0 0 Q (F0 m pc ls [])) (fun Q hret => ?_) ?_
  rotate_left
  · intro pc ls H locs m_pastMany m_past hdg hP hD hS hpost
    exact W.vret hx hb hr (fun t ht hW => ⟨⟨(m_pastMany, m_past), rfl, hpost, by rw [ht]; exact hP, va_K.moved hW.alike hK, hD⟩, hS.F ht⟩) hS.2.2 hdg
  refine lv_aload_n hx hb dX6_record_0 rfl (lv_at hl 0 rfl) ?_
  refine va_get (D := (dC, dI)) (ci := 5) (v := .int pastMany) (C := RX6) (T := TX6) (N := 16) hx hb hts iwX6_record_X6 hown hK hP 0 rfl rfl 2 (by decide) (hts _ kwX6_record_35) (fun _ h9 => h9) rfl dX6_record_1 ?_
  refine lv_iconst (v := 5) hx hb dX6_record_4 (by decide) ?_
  have hq := hq (fun (pastMany__1 : Int32) (past__2 : Nat → Int32) => ∀ (H : Heap) (locs : List Loc) (ls : Array Slot), va_P (dC, dI) vwCl [(aM, .inr (5, [.ref aZ, .ref aPast, .int pastMany__1, .ref aKz, .int isKept, .ref aBuf, .int typed, .ref aStk, .ref aLaid, .int wid, .int hei, .ref aPcs, .ref aTold, .int toldMany, .int spot, .int wrong])), (aZ, .inl (cI, 207, .inl zz)), (aPast, .inl (cI, 1035, .inl past__2))] H → va_D A [(aM, .inr (5, [.ref aZ, .ref aPast, .int pastMany__1, .ref aKz, .int isKept, .ref aBuf, .int typed, .ref aStk, .ref aLaid, .int wid, .int hei, .ref aPcs, .ref aTold, .int toldMany, .int spot, .int wrong])), (aZ, .inl (cI, 207, .inl zz)), (aPast, .inl (cI, 1035, .inl past__2))] → va_S A s.heap H locs → lv_has ls 2 [(0, .ref aM)] → W p l e ({ frames := 0, cells := 0, slots := 0, locals := 0 } : Room) s m ([.ref aM] : List Value).toArray below meth c H locs 0 0 Q (F0 m 49 ls [])) (by
    intro pastMany__1 past__2 hq H locs ls hP hD hS hl
    refine lv_iconst (v := 0) hx hb dX6_record_49 (by decide) ?_
    refine lv_istore_n (lv' := [(1, .int (0 : Int32)), (0, .ref aM)]) hx hb dX6_record_50 rfl hl (by decide) rfl (fun ls hl => ?_)
    have hq := hq (fun (v1_3 : Int32) (past__4 : Nat → Int32) => ∀ (H : Heap) (locs : List Loc) (ls : Array Slot), va_P (dC, dI) vwCl [(aM, .inr (5, [.ref aZ, .ref aPast, .int pastMany__1, .ref aKz, .int isKept, .ref aBuf, .int typed, .ref aStk, .ref aLaid, .int wid, .int hei, .ref aPcs, .ref aTold, .int toldMany, .int spot, .int wrong])), (aZ, .inl (cI, 207, .inl zz)), (aPast, .inl (cI, 1035, .inl past__4))] H → va_D A [(aM, .inr (5, [.ref aZ, .ref aPast, .int pastMany__1, .ref aKz, .int isKept, .ref aBuf, .int typed, .ref aStk, .ref aLaid, .int wid, .int hei, .ref aPcs, .ref aTold, .int toldMany, .int spot, .int wrong])), (aZ, .inl (cI, 207, .inl zz)), (aPast, .inl (cI, 1035, .inl past__4))] → va_S A s.heap H locs → lv_has ls 2 [(0, .ref aM), (1, .int v1_3)] → W p l e ({ frames := 0, cells := 0, slots := 0, locals := 0 } : Room) s m ([.ref aM] : List Value).toArray below meth c H locs 0 0 Q (F0 m 51 ls [])) (by
      intro v1_3 past__4 hq H locs ls hP hD hS hl
      refine lv_iload_n hx hb dX6_record_51 rfl (lv_at hl 1 rfl) ?_
      refine lv_sipush (v := 207) hx hb dX6_record_52 (by decide) ?_
      refine lv_icmp_ge (tgt := 85) hx hb dX6_record_55 (by decide) (fun hc => ?_) (fun hc => ?_)
      · have hq := hq.1 hc
        refine lv_aload_n hx hb dX6_record_85 rfl (lv_at hl 0 rfl) ?_
        refine lv_dup hx hb dX6_record_86 rfl ?_
        refine va_get (D := (dC, dI)) (ci := 5) (v := .int pastMany__1) (C := RX6) (T := TX6) (N := 16) hx hb hts iwX6_record_X6 hown hK hP 0 rfl rfl 2 (by decide) (hts _ kwX6_record_35) (fun _ h9 => h9) rfl dX6_record_87 ?_
        refine lv_iconst (v := 1) hx hb dX6_record_90 (by decide) ?_
        refine lv_iadd hx hb dX6_record_91 ?_
        refine va_put (D := (dC, dI)) (ci := 5) (v := .int (pastMany__1 + (1 : Int32))) (ty := .int) (C := RX6) (T := TX6) (N := 16) hx hb hts iwX6_record_X6 tyX6 tyX6_ok nmX6 hown hK hP hD hS 0 rfl rfl 2 (by decide) (hts _ kwX6_record_35) (fun _ h9 => h9) rfl (by decide +kernel) rfl rfl (Nat.le_of_ble_eq_true rfl) dX6_record_92 (fun H locs hP hD hS => ?_)
        have hP : va_P (dC, dI) vwCl [(aM, .inr (5, [.ref aZ, .ref aPast, .int (pastMany__1 + (1 : Int32)), .ref aKz, .int isKept, .ref aBuf, .int typed, .ref aStk, .ref aLaid, .int wid, .int hei, .ref aPcs, .ref aTold, .int toldMany, .int spot, .int wrong])), (aZ, .inl (cI, 207, .inl zz)), (aPast, .inl (cI, 1035, .inl past__4))] H := hP
        have hD : va_D A [(aM, .inr (5, [.ref aZ, .ref aPast, .int (pastMany__1 + (1 : Int32)), .ref aKz, .int isKept, .ref aBuf, .int typed, .ref aStk, .ref aLaid, .int wid, .int hei, .ref aPcs, .ref aTold, .int toldMany, .int spot, .int wrong])), (aZ, .inl (cI, 207, .inl zz)), (aPast, .inl (cI, 1035, .inl past__4))] := hD
        exact hret _ _ _ _ _ _ dX6_record_95 hP hD hS hq
      · have hq := hq.2 hc
        refine lv_aload_n hx hb dX6_record_58 rfl (lv_at hl 0 rfl) ?_
        refine va_get (D := (dC, dI)) (ci := 5) (v := .ref aPast) (C := RX6) (T := TX6) (N := 16) hx hb hts iwX6_record_X6 hown hK hP 0 rfl rfl 1 (by decide) (hts _ kwX6_record_13) (fun _ h9 => h9) rfl dX6_record_59 ?_
        refine lv_aload_n hx hb dX6_record_62 rfl (lv_at hl 0 rfl) ?_
        refine va_get (D := (dC, dI)) (ci := 5) (v := .int pastMany__1) (C := RX6) (T := TX6) (N := 16) hx hb hts iwX6_record_X6 hown hK hP 0 rfl rfl 2 (by decide) (hts _ kwX6_record_35) (fun _ h9 => h9) rfl dX6_record_63 ?_
        refine lv_sipush (v := 207) hx hb dX6_record_66 (by decide) ?_
        refine lv_imul hx hb dX6_record_69 ?_
        refine lv_iload_n hx hb dX6_record_70 rfl (lv_at hl 1 rfl) ?_
        refine lv_iadd hx hb dX6_record_71 ?_
        refine lv_aload_n hx hb dX6_record_72 rfl (lv_at hl 0 rfl) ?_
        refine va_get (D := (dC, dI)) (ci := 5) (v := .ref aZ) (C := RX6) (T := TX6) (N := 16) hx hb hts iwX6_record_X6 hown hK hP 0 rfl rfl 0 (by decide) (hts _ kwX6_record_7) (fun _ h9 => h9) rfl dX6_record_73 ?_
        refine lv_iload_n hx hb dX6_record_76 rfl (lv_at hl 1 rfl) ?_
        have hin := hq.1
        have hq := hq.2
        refine va_iald hx hb hK hP 1 0 rfl rfl hin dX6_record_77 ?_
        have hin := hq.1
        have hq := hq.2
        refine va_iast hx hb hK hP hD hS 2 0 rfl rfl hin dX6_record_78 (fun H locs hP hD hS => ?_)
        have hP : va_P (dC, dI) vwCl [(aM, .inr (5, [.ref aZ, .ref aPast, .int pastMany__1, .ref aKz, .int isKept, .ref aBuf, .int typed, .ref aStk, .ref aLaid, .int wid, .int hei, .ref aPcs, .ref aTold, .int toldMany, .int spot, .int wrong])), (aZ, .inl (cI, 207, .inl zz)), (aPast, .inl (cI, 1035, .inl (upd past__4 (((pastMany__1 * (207 : Int32)) + v1_3)).toNatClampNeg (zz (v1_3).toNatClampNeg))))] H := hP
        have hD : va_D A [(aM, .inr (5, [.ref aZ, .ref aPast, .int pastMany__1, .ref aKz, .int isKept, .ref aBuf, .int typed, .ref aStk, .ref aLaid, .int wid, .int hei, .ref aPcs, .ref aTold, .int toldMany, .int spot, .int wrong])), (aZ, .inl (cI, 207, .inl zz)), (aPast, .inl (cI, 1035, .inl (upd past__4 (((pastMany__1 * (207 : Int32)) + v1_3)).toNatClampNeg (zz (v1_3).toNatClampNeg))))] := hD
        refine lv_iinc (v := (v1_3 + (1 : Int32))) (lv' := [(1, .int (v1_3 + (1 : Int32))), (0, .ref aM)]) hx hb dX6_record_79 hl (k := 1) rfl rfl (by decide) rfl (fun ls hl => ?_)
        refine lv_goto (tgt := 51) hx hb dX6_record_82 (by decide) ?_
        exact hq _ _ _ hP hD hS (lv_sub hl [1, 0] rfl))
    exact hq _ _ _ hP hD hS (lv_sub hl [1, 0] rfl))
  refine lv_icmp_ne (tgt := 49) hx hb dX6_record_5 (by decide) (fun hc => ?_) (fun hc => ?_)
  · have hq := hq.1 hc
    exact hq _ _ _ hP hD hS (lv_sub hl [0] rfl)
  · have hq := hq.2 hc
    refine lv_iconst (v := 0) hx hb dX6_record_8 (by decide) ?_
    refine lv_istore_n (lv' := [(1, .int (0 : Int32)), (0, .ref aM)]) hx hb dX6_record_9 rfl hl (by decide) rfl (fun ls hl => ?_)
    have hq := hq (fun (v1_5 : Int32) (past__6 : Nat → Int32) => ∀ (H : Heap) (locs : List Loc) (ls : Array Slot), va_P (dC, dI) vwCl [(aM, .inr (5, [.ref aZ, .ref aPast, .int pastMany, .ref aKz, .int isKept, .ref aBuf, .int typed, .ref aStk, .ref aLaid, .int wid, .int hei, .ref aPcs, .ref aTold, .int toldMany, .int spot, .int wrong])), (aZ, .inl (cI, 207, .inl zz)), (aPast, .inl (cI, 1035, .inl past__6))] H → va_D A [(aM, .inr (5, [.ref aZ, .ref aPast, .int pastMany, .ref aKz, .int isKept, .ref aBuf, .int typed, .ref aStk, .ref aLaid, .int wid, .int hei, .ref aPcs, .ref aTold, .int toldMany, .int spot, .int wrong])), (aZ, .inl (cI, 207, .inl zz)), (aPast, .inl (cI, 1035, .inl past__6))] → va_S A s.heap H locs → lv_has ls 2 [(0, .ref aM), (1, .int v1_5)] → W p l e ({ frames := 0, cells := 0, slots := 0, locals := 0 } : Room) s m ([.ref aM] : List Value).toArray below meth c H locs 0 0 Q (F0 m 10 ls [])) (by
      intro v1_5 past__6 hq H locs ls hP hD hS hl
      refine lv_iload_n hx hb dX6_record_10 rfl (lv_at hl 1 rfl) ?_
      refine lv_sipush (v := 828) hx hb dX6_record_11 (by decide) ?_
      refine lv_icmp_ge (tgt := 39) hx hb dX6_record_14 (by decide) (fun hc => ?_) (fun hc => ?_)
      · have hq := hq.1 hc
        refine lv_aload_n hx hb dX6_record_39 rfl (lv_at hl 0 rfl) ?_
        refine lv_dup hx hb dX6_record_40 rfl ?_
        refine va_get (D := (dC, dI)) (ci := 5) (v := .int pastMany) (C := RX6) (T := TX6) (N := 16) hx hb hts iwX6_record_X6 hown hK hP 0 rfl rfl 2 (by decide) (hts _ kwX6_record_35) (fun _ h9 => h9) rfl dX6_record_41 ?_
        refine lv_iconst (v := 1) hx hb dX6_record_44 (by decide) ?_
        refine lv_isub hx hb dX6_record_45 ?_
        refine va_put (D := (dC, dI)) (ci := 5) (v := .int (pastMany - (1 : Int32))) (ty := .int) (C := RX6) (T := TX6) (N := 16) hx hb hts iwX6_record_X6 tyX6 tyX6_ok nmX6 hown hK hP hD hS 0 rfl rfl 2 (by decide) (hts _ kwX6_record_35) (fun _ h9 => h9) rfl (by decide +kernel) rfl rfl (Nat.le_of_ble_eq_true rfl) dX6_record_46 (fun H locs hP hD hS => ?_)
        have hP : va_P (dC, dI) vwCl [(aM, .inr (5, [.ref aZ, .ref aPast, .int (pastMany - (1 : Int32)), .ref aKz, .int isKept, .ref aBuf, .int typed, .ref aStk, .ref aLaid, .int wid, .int hei, .ref aPcs, .ref aTold, .int toldMany, .int spot, .int wrong])), (aZ, .inl (cI, 207, .inl zz)), (aPast, .inl (cI, 1035, .inl past__6))] H := hP
        have hD : va_D A [(aM, .inr (5, [.ref aZ, .ref aPast, .int (pastMany - (1 : Int32)), .ref aKz, .int isKept, .ref aBuf, .int typed, .ref aStk, .ref aLaid, .int wid, .int hei, .ref aPcs, .ref aTold, .int toldMany, .int spot, .int wrong])), (aZ, .inl (cI, 207, .inl zz)), (aPast, .inl (cI, 1035, .inl past__6))] := hD
        exact hq _ _ _ hP hD hS (lv_sub hl [0] rfl)
      · have hq := hq.2 hc
        refine lv_aload_n hx hb dX6_record_17 rfl (lv_at hl 0 rfl) ?_
        refine va_get (D := (dC, dI)) (ci := 5) (v := .ref aPast) (C := RX6) (T := TX6) (N := 16) hx hb hts iwX6_record_X6 hown hK hP 0 rfl rfl 1 (by decide) (hts _ kwX6_record_13) (fun _ h9 => h9) rfl dX6_record_18 ?_
        refine lv_iload_n hx hb dX6_record_21 rfl (lv_at hl 1 rfl) ?_
        refine lv_aload_n hx hb dX6_record_22 rfl (lv_at hl 0 rfl) ?_
        refine va_get (D := (dC, dI)) (ci := 5) (v := .ref aPast) (C := RX6) (T := TX6) (N := 16) hx hb hts iwX6_record_X6 hown hK hP 0 rfl rfl 1 (by decide) (hts _ kwX6_record_13) (fun _ h9 => h9) rfl dX6_record_23 ?_
        refine lv_iload_n hx hb dX6_record_26 rfl (lv_at hl 1 rfl) ?_
        refine lv_sipush (v := 207) hx hb dX6_record_27 (by decide) ?_
        refine lv_iadd hx hb dX6_record_30 ?_
        have hin := hq.1
        have hq := hq.2
        refine va_iald hx hb hK hP 2 0 rfl rfl hin dX6_record_31 ?_
        have hin := hq.1
        have hq := hq.2
        refine va_iast hx hb hK hP hD hS 2 0 rfl rfl hin dX6_record_32 (fun H locs hP hD hS => ?_)
        have hP : va_P (dC, dI) vwCl [(aM, .inr (5, [.ref aZ, .ref aPast, .int pastMany, .ref aKz, .int isKept, .ref aBuf, .int typed, .ref aStk, .ref aLaid, .int wid, .int hei, .ref aPcs, .ref aTold, .int toldMany, .int spot, .int wrong])), (aZ, .inl (cI, 207, .inl zz)), (aPast, .inl (cI, 1035, .inl (upd past__6 (v1_5).toNatClampNeg (past__6 ((v1_5 + (207 : Int32))).toNatClampNeg))))] H := hP
        have hD : va_D A [(aM, .inr (5, [.ref aZ, .ref aPast, .int pastMany, .ref aKz, .int isKept, .ref aBuf, .int typed, .ref aStk, .ref aLaid, .int wid, .int hei, .ref aPcs, .ref aTold, .int toldMany, .int spot, .int wrong])), (aZ, .inl (cI, 207, .inl zz)), (aPast, .inl (cI, 1035, .inl (upd past__6 (v1_5).toNatClampNeg (past__6 ((v1_5 + (207 : Int32))).toNatClampNeg))))] := hD
        refine lv_iinc (v := (v1_5 + (1 : Int32))) (lv' := [(1, .int (v1_5 + (1 : Int32))), (0, .ref aM)]) hx hb dX6_record_33 hl (k := 1) rfl rfl (by decide) rfl (fun ls hl => ?_)
        refine lv_goto (tgt := 10) hx hb dX6_record_36 (by decide) ?_
        exact hq _ _ _ hP hD hS (lv_sub hl [1, 0] rfl))
    exact hq _ _ _ hP hD hS (lv_sub hl [1, 0] rfl)
set_option maxRecDepth 20000 in
theorem kwX6_undo_35 : Cond.fieldLink RX6 35 "PunchedFoldsModel" "pastMany" "I" ∈ wsX6_undo := by decide +kernel
set_option maxRecDepth 20000 in
theorem iwX6_undo_X6 : ∀ w ∈ wsX60, w ∈ wsX6_undo := by decide +kernel
set_option maxRecDepth 20000 in
theorem kwX6_undo_7 : Cond.fieldLink RX6 7 "PunchedFoldsModel" "z" "[I" ∈ wsX6_undo := by decide +kernel
set_option maxRecDepth 20000 in
theorem kwX6_undo_13 : Cond.fieldLink RX6 13 "PunchedFoldsModel" "past" "[I" ∈ wsX6_undo := by decide +kernel
set_option maxHeartbeats 4000000 in
set_option maxRecDepth 100000 in
theorem c_X6_undo (l : Launch) (dC : Nat → ClassId) (dI : Nat → Nat → Nat) (cI cC cS : ClassId) (aM : Nat) (aZ : Nat) (aPast : Nat) (aKz : Nat) (aBuf : Nat) (aStk : Nat) (aLaid : Nat) (aPcs : Nat) (aTold : Nat) (sz : Nat) (pastMany : Int32) (isKept : Int32) (typed : Int32) (wid : Int32) (hei : Int32) (toldMany : Int32) (spot : Int32) (wrong : Int32) (zz : Nat → Int32) (past : Nat → Int32) {post : Int32 → Int32 → (Nat → Int32) → Prop} (hq : wp_X6_undo pastMany zz past post) : Met l yX6_undo wsX6_undo ({ frames := 0, cells := 0, slots := 0, locals := 0 } : Room) (gn_Pre (dC, dI) cI cC cS [.ref aM] sz [(aM, .inr (5, [.ref aZ, .ref aPast, .int pastMany, .ref aKz, .int isKept, .ref aBuf, .int typed, .ref aStk, .ref aLaid, .int wid, .int hei, .ref aPcs, .ref aTold, .int toldMany, .int spot, .int wrong])), (aZ, .inl (cI, 207, .inl zz)), (aPast, .inl (cI, 1035, .inl past))]) (va_Qi (fun (r : Int32) (u : Int32 × (Nat → Int32)) => post r u.1 u.2) (fun (u : Int32 × (Nat → Int32)) t => va_P (dC, dI) vwCl [(aM, .inr (5, [.ref aZ, .ref aPast, .int u.1, .ref aKz, .int isKept, .ref aBuf, .int typed, .ref aStk, .ref aLaid, .int wid, .int hei, .ref aPcs, .ref aTold, .int toldMany, .int spot, .int wrong])), (aZ, .inl (cI, 207, .inl u.2)), (aPast, .inl (cI, 1035, .inl past))] t.heap ∧ va_K (dC, dI) vwCl (gn_tys cI cC cS) t ∧ va_D (va_A [(aM, .inr (5, [.ref aZ, .ref aPast, .int pastMany, .ref aKz, .int isKept, .ref aBuf, .int typed, .ref aStk, .ref aLaid, .int wid, .int hei, .ref aPcs, .ref aTold, .int toldMany, .int spot, .int wrong])), (aZ, .inl (cI, 207, .inl zz)), (aPast, .inl (cI, 1035, .inl past))] sz) [(aM, .inr (5, [.ref aZ, .ref aPast, .int u.1, .ref aKz, .int isKept, .ref aBuf, .int typed, .ref aStk, .ref aLaid, .int wid, .int hei, .ref aPcs, .ref aTold, .int toldMany, .int spot, .int wrong])), (aZ, .inl (cI, 207, .inl u.2)), (aPast, .inl (cI, 1035, .inl past))]) (va_A [(aM, .inr (5, [.ref aZ, .ref aPast, .int pastMany, .ref aKz, .int isKept, .ref aBuf, .int typed, .ref aStk, .ref aLaid, .int wid, .int hei, .ref aPcs, .ref aTold, .int toldMany, .int spot, .int wrong])), (aZ, .inl (cI, 207, .inl zz)), (aPast, .inl (cI, 1035, .inl past))] sz)) 0 0 (va_A [(aM, .inr (5, [.ref aZ, .ref aPast, .int pastMany, .ref aKz, .int isKept, .ref aBuf, .int typed, .ref aStk, .ref aLaid, .int wid, .int hei, .ref aPcs, .ref aTold, .int toldMany, .int spot, .int wrong])), (aZ, .inl (cI, 207, .inl zz)), (aPast, .inl (cI, 1035, .inl past))] sz) := by
  unfold wp_X6_undo at hq
  refine Met.ofW (cc := cX6_undo) (maxL := 2) (ret := (some .int)) (by decide) rfl ?_
  intro p e s m args below meth c s₁ B hml hv
  obtain ⟨rfl, hsz, hP, hK, hN, hD0⟩ := hv
  have hx := B.exec
  have hb := B.bytes
  have hr := B.returns
  have hts := atoms_spec (ws := wsX6_undo) B.pre
  have hown : s.vm.findClass RX6 = some m.cls := findClass_of_methodNamed B.named
  have hlocks := B.notSynchronized
  subst hsz
  have hD := hD0.self (sz := s.heap.size)
  generalize hAe : va_A [(aM, .inr (5, [.ref aZ, .ref aPast, .int pastMany, .ref aKz, .int isKept, .ref aBuf, .int typed, .ref aStk, .ref aLaid, .int wid, .int hei, .ref aPcs, .ref aTold, .int toldMany, .int spot, .int wrong])), (aZ, .inl (cI, 207, .inl zz)), (aPast, .inl (cI, 1035, .inl past))] s.heap.size = A at hD ⊢
  have hA : ∀ q : Nat, s.heap.size ≤ q → A q := fun q h => by rw [← hAe]; exact Or.inr h
  have hS : va_S A s.heap s.heap [] := va_S.rf
  have hl := lv_entry ([.ref aM] : List Value) (n := 2) (Nat.le_of_ble_eq_true rfl)
  rw [lg_entry_eq]
  generalize (lg_sl ([.ref aM] : List Value) ++ List.replicate (2 - (lg_sl ([.ref aM] : List Value)).length) Slot.unset).toArray = ls at hl ⊢
  have hl : lv_has ls 2 [(0, .ref aM)] := hl
  refine gn_Q (hret := fun Q => ∀ (pc : Nat) (ls : Array Slot) (H : Heap) (locs : List Loc) (r : Int32) (m_pastMany : Int32) (m_zz : Nat → Int32), decode cX6_undo pc = .ok (.ireturn, 1) → va_P (dC, dI) vwCl [(aM, .inr (5, [.ref aZ, .ref aPast, .int m_pastMany, .ref aKz, .int isKept, .ref aBuf, .int typed, .ref aStk, .ref aLaid, .int wid, .int hei, .ref aPcs, .ref aTold, .int toldMany, .int spot, .int wrong])), (aZ, .inl (cI, 207, .inl m_zz)), (aPast, .inl (cI, 1035, .inl past))] H → va_D A [(aM, .inr (5, [.ref aZ, .ref aPast, .int m_pastMany, .ref aKz, .int isKept, .ref aBuf, .int typed, .ref aStk, .ref aLaid, .int wid, .int hei, .ref aPcs, .ref aTold, .int toldMany, .int spot, .int wrong])), (aZ, .inl (cI, 207, .inl m_zz)), (aPast, .inl (cI, 1035, .inl past))] → va_S A s.heap H locs → post r m_pastMany m_zz → W p l e ({ frames := 0, cells := 0, slots := 0, locals := 0 } : Room) s m ([.ref aM] : List Value).toArray below meth c H locs 0 0 Q (F0 m pc ls [.int r])) (fun Q hret => ?_) ?_
  rotate_left
  · intro pc ls H locs r m_pastMany m_zz hdg hP hD hS hpost
    exact W.iret (v := r) hx hb hr (fun t ht hW => ⟨⟨r, (m_pastMany, m_zz), rfl, hpost, by rw [ht]; exact hP, va_K.moved hW.alike hK, hD⟩, hS.F ht⟩) hS.2.2 hdg
  refine lv_aload_n hx hb dX6_undo_0 rfl (lv_at hl 0 rfl) ?_
  refine va_get (D := (dC, dI)) (ci := 5) (v := .int pastMany) (C := RX6) (T := TX6) (N := 16) hx hb hts iwX6_undo_X6 hown hK hP 0 rfl rfl 2 (by decide) (hts _ kwX6_undo_35) (fun _ h9 => h9) rfl dX6_undo_1 ?_
  refine lv_if_ne (tgt := 10) hx hb dX6_undo_4 (by decide) (fun hc => ?_) (fun hc => ?_)
  · have hq := hq.1 hc
    refine lv_aload_n hx hb dX6_undo_10 rfl (lv_at hl 0 rfl) ?_
    refine lv_dup hx hb dX6_undo_11 rfl ?_
    refine va_get (D := (dC, dI)) (ci := 5) (v := .int pastMany) (C := RX6) (T := TX6) (N := 16) hx hb hts iwX6_undo_X6 hown hK hP 0 rfl rfl 2 (by decide) (hts _ kwX6_undo_35) (fun _ h9 => h9) rfl dX6_undo_12 ?_
    refine lv_iconst (v := 1) hx hb dX6_undo_15 (by decide) ?_
    refine lv_isub hx hb dX6_undo_16 ?_
    refine va_put (D := (dC, dI)) (ci := 5) (v := .int (pastMany - (1 : Int32))) (ty := .int) (C := RX6) (T := TX6) (N := 16) hx hb hts iwX6_undo_X6 tyX6 tyX6_ok nmX6 hown hK hP hD hS 0 rfl rfl 2 (by decide) (hts _ kwX6_undo_35) (fun _ h9 => h9) rfl (by decide +kernel) rfl rfl (Nat.le_of_ble_eq_true rfl) dX6_undo_17 (fun H locs hP hD hS => ?_)
    have hP : va_P (dC, dI) vwCl [(aM, .inr (5, [.ref aZ, .ref aPast, .int (pastMany - (1 : Int32)), .ref aKz, .int isKept, .ref aBuf, .int typed, .ref aStk, .ref aLaid, .int wid, .int hei, .ref aPcs, .ref aTold, .int toldMany, .int spot, .int wrong])), (aZ, .inl (cI, 207, .inl zz)), (aPast, .inl (cI, 1035, .inl past))] H := hP
    have hD : va_D A [(aM, .inr (5, [.ref aZ, .ref aPast, .int (pastMany - (1 : Int32)), .ref aKz, .int isKept, .ref aBuf, .int typed, .ref aStk, .ref aLaid, .int wid, .int hei, .ref aPcs, .ref aTold, .int toldMany, .int spot, .int wrong])), (aZ, .inl (cI, 207, .inl zz)), (aPast, .inl (cI, 1035, .inl past))] := hD
    refine lv_iconst (v := 0) hx hb dX6_undo_20 (by decide) ?_
    refine lv_istore_n (lv' := [(1, .int (0 : Int32)), (0, .ref aM)]) hx hb dX6_undo_21 rfl hl (by decide) rfl (fun ls hl => ?_)
    have hq := hq (fun (v1_1 : Int32) (zz__2 : Nat → Int32) => ∀ (H : Heap) (locs : List Loc) (ls : Array Slot), va_P (dC, dI) vwCl [(aM, .inr (5, [.ref aZ, .ref aPast, .int (pastMany - (1 : Int32)), .ref aKz, .int isKept, .ref aBuf, .int typed, .ref aStk, .ref aLaid, .int wid, .int hei, .ref aPcs, .ref aTold, .int toldMany, .int spot, .int wrong])), (aZ, .inl (cI, 207, .inl zz__2)), (aPast, .inl (cI, 1035, .inl past))] H → va_D A [(aM, .inr (5, [.ref aZ, .ref aPast, .int (pastMany - (1 : Int32)), .ref aKz, .int isKept, .ref aBuf, .int typed, .ref aStk, .ref aLaid, .int wid, .int hei, .ref aPcs, .ref aTold, .int toldMany, .int spot, .int wrong])), (aZ, .inl (cI, 207, .inl zz__2)), (aPast, .inl (cI, 1035, .inl past))] → va_S A s.heap H locs → lv_has ls 2 [(0, .ref aM), (1, .int v1_1)] → W p l e ({ frames := 0, cells := 0, slots := 0, locals := 0 } : Room) s m ([.ref aM] : List Value).toArray below meth c H locs 0 0 Q (F0 m 22 ls [])) (by
      intro v1_1 zz__2 hq H locs ls hP hD hS hl
      refine lv_iload_n hx hb dX6_undo_22 rfl (lv_at hl 1 rfl) ?_
      refine lv_sipush (v := 207) hx hb dX6_undo_23 (by decide) ?_
      refine lv_icmp_ge (tgt := 56) hx hb dX6_undo_26 (by decide) (fun hc => ?_) (fun hc => ?_)
      · have hq := hq.1 hc
        refine lv_aload_n hx hb dX6_undo_56 rfl (lv_at hl 0 rfl) ?_
        refine va_get (D := (dC, dI)) (ci := 5) (v := .int (pastMany - (1 : Int32))) (C := RX6) (T := TX6) (N := 16) hx hb hts iwX6_undo_X6 hown hK hP 0 rfl rfl 2 (by decide) (hts _ kwX6_undo_35) (fun _ h9 => h9) rfl dX6_undo_57 ?_
        exact hret _ _ _ _ _ _ _ dX6_undo_60 hP hD hS hq
      · have hq := hq.2 hc
        refine lv_aload_n hx hb dX6_undo_29 rfl (lv_at hl 0 rfl) ?_
        refine va_get (D := (dC, dI)) (ci := 5) (v := .ref aZ) (C := RX6) (T := TX6) (N := 16) hx hb hts iwX6_undo_X6 hown hK hP 0 rfl rfl 0 (by decide) (hts _ kwX6_undo_7) (fun _ h9 => h9) rfl dX6_undo_30 ?_
        refine lv_iload_n hx hb dX6_undo_33 rfl (lv_at hl 1 rfl) ?_
        refine lv_aload_n hx hb dX6_undo_34 rfl (lv_at hl 0 rfl) ?_
        refine va_get (D := (dC, dI)) (ci := 5) (v := .ref aPast) (C := RX6) (T := TX6) (N := 16) hx hb hts iwX6_undo_X6 hown hK hP 0 rfl rfl 1 (by decide) (hts _ kwX6_undo_13) (fun _ h9 => h9) rfl dX6_undo_35 ?_
        refine lv_aload_n hx hb dX6_undo_38 rfl (lv_at hl 0 rfl) ?_
        refine va_get (D := (dC, dI)) (ci := 5) (v := .int (pastMany - (1 : Int32))) (C := RX6) (T := TX6) (N := 16) hx hb hts iwX6_undo_X6 hown hK hP 0 rfl rfl 2 (by decide) (hts _ kwX6_undo_35) (fun _ h9 => h9) rfl dX6_undo_39 ?_
        refine lv_sipush (v := 207) hx hb dX6_undo_42 (by decide) ?_
        refine lv_imul hx hb dX6_undo_45 ?_
        refine lv_iload_n hx hb dX6_undo_46 rfl (lv_at hl 1 rfl) ?_
        refine lv_iadd hx hb dX6_undo_47 ?_
        have hin := hq.1
        have hq := hq.2
        refine va_iald hx hb hK hP 2 0 rfl rfl hin dX6_undo_48 ?_
        have hin := hq.1
        have hq := hq.2
        refine va_iast hx hb hK hP hD hS 1 0 rfl rfl hin dX6_undo_49 (fun H locs hP hD hS => ?_)
        have hP : va_P (dC, dI) vwCl [(aM, .inr (5, [.ref aZ, .ref aPast, .int (pastMany - (1 : Int32)), .ref aKz, .int isKept, .ref aBuf, .int typed, .ref aStk, .ref aLaid, .int wid, .int hei, .ref aPcs, .ref aTold, .int toldMany, .int spot, .int wrong])), (aZ, .inl (cI, 207, .inl (upd zz__2 (v1_1).toNatClampNeg (past ((((pastMany - (1 : Int32)) * (207 : Int32)) + v1_1)).toNatClampNeg)))), (aPast, .inl (cI, 1035, .inl past))] H := hP
        have hD : va_D A [(aM, .inr (5, [.ref aZ, .ref aPast, .int (pastMany - (1 : Int32)), .ref aKz, .int isKept, .ref aBuf, .int typed, .ref aStk, .ref aLaid, .int wid, .int hei, .ref aPcs, .ref aTold, .int toldMany, .int spot, .int wrong])), (aZ, .inl (cI, 207, .inl (upd zz__2 (v1_1).toNatClampNeg (past ((((pastMany - (1 : Int32)) * (207 : Int32)) + v1_1)).toNatClampNeg)))), (aPast, .inl (cI, 1035, .inl past))] := hD
        refine lv_iinc (v := (v1_1 + (1 : Int32))) (lv' := [(1, .int (v1_1 + (1 : Int32))), (0, .ref aM)]) hx hb dX6_undo_50 hl (k := 1) rfl rfl (by decide) rfl (fun ls hl => ?_)
        refine lv_goto (tgt := 22) hx hb dX6_undo_53 (by decide) ?_
        exact hq _ _ _ hP hD hS (lv_sub hl [1, 0] rfl))
    exact hq _ _ _ hP hD hS (lv_sub hl [1, 0] rfl)
  · have hq := hq.2 hc
    refine lv_bipush (v := -3) hx hb dX6_undo_7 (by decide) ?_
    exact hret _ _ _ _ _ _ _ dX6_undo_9 hP hD hS hq
set_option maxRecDepth 20000 in
theorem kwX6_save_39 : Cond.fieldLink RX6 39 "PunchedFoldsModel" "isKept" "Z" ∈ wsX6_save := by decide +kernel
set_option maxRecDepth 20000 in
theorem iwX6_save_X6 : ∀ w ∈ wsX60, w ∈ wsX6_save := by decide +kernel
set_option maxRecDepth 20000 in
theorem kwX6_save_7 : Cond.fieldLink RX6 7 "PunchedFoldsModel" "z" "[I" ∈ wsX6_save := by decide +kernel
set_option maxRecDepth 20000 in
theorem kwX6_save_16 : Cond.fieldLink RX6 16 "PunchedFoldsModel" "kept" "[I" ∈ wsX6_save := by decide +kernel
set_option maxHeartbeats 4000000 in
set_option maxRecDepth 100000 in
theorem c_X6_save (l : Launch) (dC : Nat → ClassId) (dI : Nat → Nat → Nat) (cI cC cS : ClassId) (aM : Nat) (aZ : Nat) (aPast : Nat) (aKz : Nat) (aBuf : Nat) (aStk : Nat) (aLaid : Nat) (aPcs : Nat) (aTold : Nat) (sz : Nat) (pastMany : Int32) (isKept : Int32) (typed : Int32) (wid : Int32) (hei : Int32) (toldMany : Int32) (spot : Int32) (wrong : Int32) (zz : Nat → Int32) (kz : Nat → Int32) {post : Int32 → Int32 → (Nat → Int32) → Prop} (hq : wp_X6_save isKept zz kz post) : Met l yX6_save wsX6_save ({ frames := 0, cells := 0, slots := 0, locals := 0 } : Room) (gn_Pre (dC, dI) cI cC cS [.ref aM] sz [(aM, .inr (5, [.ref aZ, .ref aPast, .int pastMany, .ref aKz, .int isKept, .ref aBuf, .int typed, .ref aStk, .ref aLaid, .int wid, .int hei, .ref aPcs, .ref aTold, .int toldMany, .int spot, .int wrong])), (aZ, .inl (cI, 207, .inl zz)), (aKz, .inl (cI, 207, .inl kz))]) (va_Qi (fun (r : Int32) (u : Int32 × (Nat → Int32)) => post r u.1 u.2) (fun (u : Int32 × (Nat → Int32)) t => va_P (dC, dI) vwCl [(aM, .inr (5, [.ref aZ, .ref aPast, .int pastMany, .ref aKz, .int u.1, .ref aBuf, .int typed, .ref aStk, .ref aLaid, .int wid, .int hei, .ref aPcs, .ref aTold, .int toldMany, .int spot, .int wrong])), (aZ, .inl (cI, 207, .inl zz)), (aKz, .inl (cI, 207, .inl u.2))] t.heap ∧ va_K (dC, dI) vwCl (gn_tys cI cC cS) t ∧ va_D (va_A [(aM, .inr (5, [.ref aZ, .ref aPast, .int pastMany, .ref aKz, .int isKept, .ref aBuf, .int typed, .ref aStk, .ref aLaid, .int wid, .int hei, .ref aPcs, .ref aTold, .int toldMany, .int spot, .int wrong])), (aZ, .inl (cI, 207, .inl zz)), (aKz, .inl (cI, 207, .inl kz))] sz) [(aM, .inr (5, [.ref aZ, .ref aPast, .int pastMany, .ref aKz, .int u.1, .ref aBuf, .int typed, .ref aStk, .ref aLaid, .int wid, .int hei, .ref aPcs, .ref aTold, .int toldMany, .int spot, .int wrong])), (aZ, .inl (cI, 207, .inl zz)), (aKz, .inl (cI, 207, .inl u.2))]) (va_A [(aM, .inr (5, [.ref aZ, .ref aPast, .int pastMany, .ref aKz, .int isKept, .ref aBuf, .int typed, .ref aStk, .ref aLaid, .int wid, .int hei, .ref aPcs, .ref aTold, .int toldMany, .int spot, .int wrong])), (aZ, .inl (cI, 207, .inl zz)), (aKz, .inl (cI, 207, .inl kz))] sz)) 0 0 (va_A [(aM, .inr (5, [.ref aZ, .ref aPast, .int pastMany, .ref aKz, .int isKept, .ref aBuf, .int typed, .ref aStk, .ref aLaid, .int wid, .int hei, .ref aPcs, .ref aTold, .int toldMany, .int spot, .int wrong])), (aZ, .inl (cI, 207, .inl zz)), (aKz, .inl (cI, 207, .inl kz))] sz) := by
  unfold wp_X6_save at hq
  refine Met.ofW (cc := cX6_save) (maxL := 2) (ret := (some .int)) (by decide) rfl ?_
  intro p e s m args below meth c s₁ B hml hv
  obtain ⟨rfl, hsz, hP, hK, hN, hD0⟩ := hv
  have hx := B.exec
  have hb := B.bytes
  have hr := B.returns
  have hts := atoms_spec (ws := wsX6_save) B.pre
  have hown : s.vm.findClass RX6 = some m.cls := findClass_of_methodNamed B.named
  have hlocks := B.notSynchronized
  subst hsz
  have hD := hD0.self (sz := s.heap.size)
  generalize hAe : va_A [(aM, .inr (5, [.ref aZ, .ref aPast, .int pastMany, .ref aKz, .int isKept, .ref aBuf, .int typed, .ref aStk, .ref aLaid, .int wid, .int hei, .ref aPcs, .ref aTold, .int toldMany, .int spot, .int wrong])), (aZ, .inl (cI, 207, .inl zz)), (aKz, .inl (cI, 207, .inl kz))] s.heap.size = A at hD ⊢
  have hA : ∀ q : Nat, s.heap.size ≤ q → A q := fun q h => by rw [← hAe]; exact Or.inr h
  have hS : va_S A s.heap s.heap [] := va_S.rf
  have hl := lv_entry ([.ref aM] : List Value) (n := 2) (Nat.le_of_ble_eq_true rfl)
  rw [lg_entry_eq]
  generalize (lg_sl ([.ref aM] : List Value) ++ List.replicate (2 - (lg_sl ([.ref aM] : List Value)).length) Slot.unset).toArray = ls at hl ⊢
  have hl : lv_has ls 2 [(0, .ref aM)] := hl
  refine gn_Q (hret := fun Q => ∀ (pc : Nat) (ls : Array Slot) (H : Heap) (locs : List Loc) (r : Int32) (m_isKept : Int32) (m_kz : Nat → Int32), decode cX6_save pc = .ok (.ireturn, 1) → va_P (dC, dI) vwCl [(aM, .inr (5, [.ref aZ, .ref aPast, .int pastMany, .ref aKz, .int m_isKept, .ref aBuf, .int typed, .ref aStk, .ref aLaid, .int wid, .int hei, .ref aPcs, .ref aTold, .int toldMany, .int spot, .int wrong])), (aZ, .inl (cI, 207, .inl zz)), (aKz, .inl (cI, 207, .inl m_kz))] H → va_D A [(aM, .inr (5, [.ref aZ, .ref aPast, .int pastMany, .ref aKz, .int m_isKept, .ref aBuf, .int typed, .ref aStk, .ref aLaid, .int wid, .int hei, .ref aPcs, .ref aTold, .int toldMany, .int spot, .int wrong])), (aZ, .inl (cI, 207, .inl zz)), (aKz, .inl (cI, 207, .inl m_kz))] → va_S A s.heap H locs → post r m_isKept m_kz → W p l e ({ frames := 0, cells := 0, slots := 0, locals := 0 } : Room) s m ([.ref aM] : List Value).toArray below meth c H locs 0 0 Q (F0 m pc ls [.int r])) (fun Q hret => ?_) ?_
  rotate_left
  · intro pc ls H locs r m_isKept m_kz hdg hP hD hS hpost
    exact W.iret (v := r) hx hb hr (fun t ht hW => ⟨⟨r, (m_isKept, m_kz), rfl, hpost, by rw [ht]; exact hP, va_K.moved hW.alike hK, hD⟩, hS.F ht⟩) hS.2.2 hdg
  refine lv_aload_n hx hb dX6_save_0 rfl (lv_at hl 0 rfl) ?_
  refine lv_iconst (v := 1) hx hb dX6_save_1 (by decide) ?_
  refine va_put (D := (dC, dI)) (ci := 5) (v := .int (1 : Int32)) (ty := .boolean) (C := RX6) (T := TX6) (N := 16) hx hb hts iwX6_save_X6 tyX6 tyX6_ok nmX6 hown hK hP hD hS 0 rfl rfl 4 (by decide) (hts _ kwX6_save_39) (fun _ h9 => h9) rfl (by decide +kernel) (by decide) (by decide) (Nat.le_of_ble_eq_true rfl) dX6_save_2 (fun H locs hP hD hS => ?_)
  have hP : va_P (dC, dI) vwCl [(aM, .inr (5, [.ref aZ, .ref aPast, .int pastMany, .ref aKz, .int (1 : Int32), .ref aBuf, .int typed, .ref aStk, .ref aLaid, .int wid, .int hei, .ref aPcs, .ref aTold, .int toldMany, .int spot, .int wrong])), (aZ, .inl (cI, 207, .inl zz)), (aKz, .inl (cI, 207, .inl kz))] H := hP
  have hD : va_D A [(aM, .inr (5, [.ref aZ, .ref aPast, .int pastMany, .ref aKz, .int (1 : Int32), .ref aBuf, .int typed, .ref aStk, .ref aLaid, .int wid, .int hei, .ref aPcs, .ref aTold, .int toldMany, .int spot, .int wrong])), (aZ, .inl (cI, 207, .inl zz)), (aKz, .inl (cI, 207, .inl kz))] := hD
  refine lv_iconst (v := 0) hx hb dX6_save_5 (by decide) ?_
  refine lv_istore_n (lv' := [(1, .int (0 : Int32)), (0, .ref aM)]) hx hb dX6_save_6 rfl hl (by decide) rfl (fun ls hl => ?_)
  have hq := hq (fun (v1_1 : Int32) (kz__2 : Nat → Int32) => ∀ (H : Heap) (locs : List Loc) (ls : Array Slot), va_P (dC, dI) vwCl [(aM, .inr (5, [.ref aZ, .ref aPast, .int pastMany, .ref aKz, .int (1 : Int32), .ref aBuf, .int typed, .ref aStk, .ref aLaid, .int wid, .int hei, .ref aPcs, .ref aTold, .int toldMany, .int spot, .int wrong])), (aZ, .inl (cI, 207, .inl zz)), (aKz, .inl (cI, 207, .inl kz__2))] H → va_D A [(aM, .inr (5, [.ref aZ, .ref aPast, .int pastMany, .ref aKz, .int (1 : Int32), .ref aBuf, .int typed, .ref aStk, .ref aLaid, .int wid, .int hei, .ref aPcs, .ref aTold, .int toldMany, .int spot, .int wrong])), (aZ, .inl (cI, 207, .inl zz)), (aKz, .inl (cI, 207, .inl kz__2))] → va_S A s.heap H locs → lv_has ls 2 [(0, .ref aM), (1, .int v1_1)] → W p l e ({ frames := 0, cells := 0, slots := 0, locals := 0 } : Room) s m ([.ref aM] : List Value).toArray below meth c H locs 0 0 Q (F0 m 7 ls [])) (by
    intro v1_1 kz__2 hq H locs ls hP hD hS hl
    refine lv_iload_n hx hb dX6_save_7 rfl (lv_at hl 1 rfl) ?_
    refine lv_sipush (v := 207) hx hb dX6_save_8 (by decide) ?_
    refine lv_icmp_ge (tgt := 32) hx hb dX6_save_11 (by decide) (fun hc => ?_) (fun hc => ?_)
    · have hq := hq.1 hc
      refine lv_aload_n hx hb dX6_save_32 rfl (lv_at hl 0 rfl) ?_
      refine va_get (D := (dC, dI)) (ci := 5) (v := .ref aZ) (C := RX6) (T := TX6) (N := 16) hx hb hts iwX6_save_X6 hown hK hP 0 rfl rfl 0 (by decide) (hts _ kwX6_save_7) (fun _ h9 => h9) rfl dX6_save_33 ?_
      refine lv_iconst (v := 0) hx hb dX6_save_36 (by decide) ?_
      have hin := hq.1
      have hq := hq.2
      refine va_iald hx hb hK hP 1 0 rfl rfl hin dX6_save_37 ?_
      exact hret _ _ _ _ _ _ _ dX6_save_38 hP hD hS hq
    · have hq := hq.2 hc
      refine lv_aload_n hx hb dX6_save_14 rfl (lv_at hl 0 rfl) ?_
      refine va_get (D := (dC, dI)) (ci := 5) (v := .ref aKz) (C := RX6) (T := TX6) (N := 16) hx hb hts iwX6_save_X6 hown hK hP 0 rfl rfl 3 (by decide) (hts _ kwX6_save_16) (fun _ h9 => h9) rfl dX6_save_15 ?_
      refine lv_iload_n hx hb dX6_save_18 rfl (lv_at hl 1 rfl) ?_
      refine lv_aload_n hx hb dX6_save_19 rfl (lv_at hl 0 rfl) ?_
      refine va_get (D := (dC, dI)) (ci := 5) (v := .ref aZ) (C := RX6) (T := TX6) (N := 16) hx hb hts iwX6_save_X6 hown hK hP 0 rfl rfl 0 (by decide) (hts _ kwX6_save_7) (fun _ h9 => h9) rfl dX6_save_20 ?_
      refine lv_iload_n hx hb dX6_save_23 rfl (lv_at hl 1 rfl) ?_
      have hin := hq.1
      have hq := hq.2
      refine va_iald hx hb hK hP 1 0 rfl rfl hin dX6_save_24 ?_
      have hin := hq.1
      have hq := hq.2
      refine va_iast hx hb hK hP hD hS 2 0 rfl rfl hin dX6_save_25 (fun H locs hP hD hS => ?_)
      have hP : va_P (dC, dI) vwCl [(aM, .inr (5, [.ref aZ, .ref aPast, .int pastMany, .ref aKz, .int (1 : Int32), .ref aBuf, .int typed, .ref aStk, .ref aLaid, .int wid, .int hei, .ref aPcs, .ref aTold, .int toldMany, .int spot, .int wrong])), (aZ, .inl (cI, 207, .inl zz)), (aKz, .inl (cI, 207, .inl (upd kz__2 (v1_1).toNatClampNeg (zz (v1_1).toNatClampNeg))))] H := hP
      have hD : va_D A [(aM, .inr (5, [.ref aZ, .ref aPast, .int pastMany, .ref aKz, .int (1 : Int32), .ref aBuf, .int typed, .ref aStk, .ref aLaid, .int wid, .int hei, .ref aPcs, .ref aTold, .int toldMany, .int spot, .int wrong])), (aZ, .inl (cI, 207, .inl zz)), (aKz, .inl (cI, 207, .inl (upd kz__2 (v1_1).toNatClampNeg (zz (v1_1).toNatClampNeg))))] := hD
      refine lv_iinc (v := (v1_1 + (1 : Int32))) (lv' := [(1, .int (v1_1 + (1 : Int32))), (0, .ref aM)]) hx hb dX6_save_26 hl (k := 1) rfl rfl (by decide) rfl (fun ls hl => ?_)
      refine lv_goto (tgt := 7) hx hb dX6_save_29 (by decide) ?_
      exact hq _ _ _ hP hD hS (lv_sub hl [1, 0] rfl))
  exact hq _ _ _ hP hD hS (lv_sub hl [1, 0] rfl)
set_option maxRecDepth 20000 in
theorem kwX6_restore_39 : Cond.fieldLink RX6 39 "PunchedFoldsModel" "isKept" "Z" ∈ wsX6_restore := by decide +kernel
set_option maxRecDepth 20000 in
theorem iwX6_restore_X6 : ∀ w ∈ wsX60, w ∈ wsX6_restore := by decide +kernel
set_option maxRecDepth 20000 in
theorem kwX6_restore_7 : Cond.fieldLink RX6 7 "PunchedFoldsModel" "z" "[I" ∈ wsX6_restore := by decide +kernel
set_option maxRecDepth 20000 in
theorem kwX6_restore_16 : Cond.fieldLink RX6 16 "PunchedFoldsModel" "kept" "[I" ∈ wsX6_restore := by decide +kernel
set_option maxHeartbeats 4000000 in
set_option maxRecDepth 100000 in
theorem c_X6_restore (l : Launch) (dC : Nat → ClassId) (dI : Nat → Nat → Nat) (cI cC cS : ClassId) (aM : Nat) (aZ : Nat) (aPast : Nat) (aKz : Nat) (aBuf : Nat) (aStk : Nat) (aLaid : Nat) (aPcs : Nat) (aTold : Nat) (sz : Nat) (pastMany : Int32) (isKept : Int32) (typed : Int32) (wid : Int32) (hei : Int32) (toldMany : Int32) (spot : Int32) (wrong : Int32) (zz : Nat → Int32) (past : Nat → Int32) (kz : Nat → Int32) {post : Int32 → Int32 → (Nat → Int32) → (Nat → Int32) → Prop} (hq : wp_X6_restore pastMany isKept zz past kz post) : Met l yX6_restore wsX6_restore ({ frames := 1, cells := 0, slots := 0, locals := 21 } : Room) (gn_Pre (dC, dI) cI cC cS [.ref aM] sz [(aM, .inr (5, [.ref aZ, .ref aPast, .int pastMany, .ref aKz, .int isKept, .ref aBuf, .int typed, .ref aStk, .ref aLaid, .int wid, .int hei, .ref aPcs, .ref aTold, .int toldMany, .int spot, .int wrong])), (aZ, .inl (cI, 207, .inl zz)), (aPast, .inl (cI, 1035, .inl past)), (aKz, .inl (cI, 207, .inl kz))]) (va_Qi (fun (r : Int32) (u : Int32 × (Nat → Int32) × (Nat → Int32)) => post r u.1 u.2.1 u.2.2) (fun (u : Int32 × (Nat → Int32) × (Nat → Int32)) t => va_P (dC, dI) vwCl [(aM, .inr (5, [.ref aZ, .ref aPast, .int u.1, .ref aKz, .int isKept, .ref aBuf, .int typed, .ref aStk, .ref aLaid, .int wid, .int hei, .ref aPcs, .ref aTold, .int toldMany, .int spot, .int wrong])), (aZ, .inl (cI, 207, .inl u.2.1)), (aPast, .inl (cI, 1035, .inl u.2.2)), (aKz, .inl (cI, 207, .inl kz))] t.heap ∧ va_K (dC, dI) vwCl (gn_tys cI cC cS) t ∧ va_D (va_A [(aM, .inr (5, [.ref aZ, .ref aPast, .int pastMany, .ref aKz, .int isKept, .ref aBuf, .int typed, .ref aStk, .ref aLaid, .int wid, .int hei, .ref aPcs, .ref aTold, .int toldMany, .int spot, .int wrong])), (aZ, .inl (cI, 207, .inl zz)), (aPast, .inl (cI, 1035, .inl past)), (aKz, .inl (cI, 207, .inl kz))] sz) [(aM, .inr (5, [.ref aZ, .ref aPast, .int u.1, .ref aKz, .int isKept, .ref aBuf, .int typed, .ref aStk, .ref aLaid, .int wid, .int hei, .ref aPcs, .ref aTold, .int toldMany, .int spot, .int wrong])), (aZ, .inl (cI, 207, .inl u.2.1)), (aPast, .inl (cI, 1035, .inl u.2.2)), (aKz, .inl (cI, 207, .inl kz))]) (va_A [(aM, .inr (5, [.ref aZ, .ref aPast, .int pastMany, .ref aKz, .int isKept, .ref aBuf, .int typed, .ref aStk, .ref aLaid, .int wid, .int hei, .ref aPcs, .ref aTold, .int toldMany, .int spot, .int wrong])), (aZ, .inl (cI, 207, .inl zz)), (aPast, .inl (cI, 1035, .inl past)), (aKz, .inl (cI, 207, .inl kz))] sz)) 0 0 (va_A [(aM, .inr (5, [.ref aZ, .ref aPast, .int pastMany, .ref aKz, .int isKept, .ref aBuf, .int typed, .ref aStk, .ref aLaid, .int wid, .int hei, .ref aPcs, .ref aTold, .int toldMany, .int spot, .int wrong])), (aZ, .inl (cI, 207, .inl zz)), (aPast, .inl (cI, 1035, .inl past)), (aKz, .inl (cI, 207, .inl kz))] sz) := by
  unfold wp_X6_restore at hq
  refine Met.ofW (cc := cX6_restore) (maxL := 2) (ret := (some .int)) (by decide) rfl ?_
  intro p e s m args below meth c s₁ B hml hv
  obtain ⟨rfl, hsz, hP, hK, hN, hD0⟩ := hv
  have hx := B.exec
  have hb := B.bytes
  have hr := B.returns
  have hts := atoms_spec (ws := wsX6_restore) B.pre
  have hown : s.vm.findClass RX6 = some m.cls := findClass_of_methodNamed B.named
  have hlocks := B.notSynchronized
  subst hsz
  have hD := hD0.self (sz := s.heap.size)
  generalize hAe : va_A [(aM, .inr (5, [.ref aZ, .ref aPast, .int pastMany, .ref aKz, .int isKept, .ref aBuf, .int typed, .ref aStk, .ref aLaid, .int wid, .int hei, .ref aPcs, .ref aTold, .int toldMany, .int spot, .int wrong])), (aZ, .inl (cI, 207, .inl zz)), (aPast, .inl (cI, 1035, .inl past)), (aKz, .inl (cI, 207, .inl kz))] s.heap.size = A at hD ⊢
  have hA : ∀ q : Nat, s.heap.size ≤ q → A q := fun q h => by rw [← hAe]; exact Or.inr h
  have hS : va_S A s.heap s.heap [] := va_S.rf
  have hl := lv_entry ([.ref aM] : List Value) (n := 2) (Nat.le_of_ble_eq_true rfl)
  rw [lg_entry_eq]
  generalize (lg_sl ([.ref aM] : List Value) ++ List.replicate (2 - (lg_sl ([.ref aM] : List Value)).length) Slot.unset).toArray = ls at hl ⊢
  have hl : lv_has ls 2 [(0, .ref aM)] := hl
  refine gn_Q (hret := fun Q => ∀ (pc : Nat) (ls : Array Slot) (H : Heap) (locs : List Loc) (r : Int32) (m_pastMany : Int32) (m_zz : Nat → Int32) (m_past : Nat → Int32), decode cX6_restore pc = .ok (.ireturn, 1) → va_P (dC, dI) vwCl [(aM, .inr (5, [.ref aZ, .ref aPast, .int m_pastMany, .ref aKz, .int isKept, .ref aBuf, .int typed, .ref aStk, .ref aLaid, .int wid, .int hei, .ref aPcs, .ref aTold, .int toldMany, .int spot, .int wrong])), (aZ, .inl (cI, 207, .inl m_zz)), (aPast, .inl (cI, 1035, .inl m_past)), (aKz, .inl (cI, 207, .inl kz))] H → va_D A [(aM, .inr (5, [.ref aZ, .ref aPast, .int m_pastMany, .ref aKz, .int isKept, .ref aBuf, .int typed, .ref aStk, .ref aLaid, .int wid, .int hei, .ref aPcs, .ref aTold, .int toldMany, .int spot, .int wrong])), (aZ, .inl (cI, 207, .inl m_zz)), (aPast, .inl (cI, 1035, .inl m_past)), (aKz, .inl (cI, 207, .inl kz))] → va_S A s.heap H locs → post r m_pastMany m_zz m_past → W p l e ({ frames := 1, cells := 0, slots := 0, locals := 21 } : Room) s m ([.ref aM] : List Value).toArray below meth c H locs 0 0 Q (F0 m pc ls [.int r])) (fun Q hret => ?_) ?_
  rotate_left
  · intro pc ls H locs r m_pastMany m_zz m_past hdg hP hD hS hpost
    exact W.iret (v := r) hx hb hr (fun t ht hW => ⟨⟨r, (m_pastMany, m_zz, m_past), rfl, hpost, by rw [ht]; exact hP, va_K.moved hW.alike hK, hD⟩, hS.F ht⟩) hS.2.2 hdg
  refine lv_aload_n hx hb dX6_restore_0 rfl (lv_at hl 0 rfl) ?_
  refine va_get (D := (dC, dI)) (ci := 5) (v := .int isKept) (C := RX6) (T := TX6) (N := 16) hx hb hts iwX6_restore_X6 hown hK hP 0 rfl rfl 4 (by decide) (hts _ kwX6_restore_39) (fun _ h9 => h9) rfl dX6_restore_1 ?_
  refine lv_if_ne (tgt := 10) hx hb dX6_restore_4 (by decide) (fun hc => ?_) (fun hc => ?_)
  · have hq := hq.1 hc
    refine lv_aload_n hx hb dX6_restore_10 rfl (lv_at hl 0 rfl) ?_
    have hPc := hP.sub (ws' := [(aM, .inr (5, [.ref aZ, .ref aPast, .int pastMany, .ref aKz, .int isKept, .ref aBuf, .int typed, .ref aStk, .ref aLaid, .int wid, .int hei, .ref aPcs, .ref aTold, .int toldMany, .int spot, .int wrong])), (aZ, .inl (cI, 207, .inl zz)), (aPast, .inl (cI, 1035, .inl past))]) [0, 1, 2] rfl
    have hDc := hD.sub (ws' := [(aM, .inr (5, [.ref aZ, .ref aPast, .int pastMany, .ref aKz, .int isKept, .ref aBuf, .int typed, .ref aStk, .ref aLaid, .int wid, .int hei, .ref aPcs, .ref aTold, .int toldMany, .int spot, .int wrong])), (aZ, .inl (cI, 207, .inl zz)), (aPast, .inl (cI, 1035, .inl past))]) [0, 1, 2] (by decide) rfl
    have hFc := va_free (wc := [(aM, .inr (5, [.ref aZ, .ref aPast, .int pastMany, .ref aKz, .int isKept, .ref aBuf, .int typed, .ref aStk, .ref aLaid, .int wid, .int hei, .ref aPcs, .ref aTold, .int toldMany, .int spot, .int wrong])), (aZ, .inl (cI, 207, .inl zz)), (aPast, .inl (cI, 1035, .inl past))]) hD hS hA [0, 1, 2] rfl
    refine va_callv (va_runV (As := []) (rest := []) ⟨hx, hb, hml, hown, hts⟩ (c_X6_record l dC dI cI cC cS aM aZ aPast aKz aBuf aStk aLaid aPcs aTold _ pastMany isKept typed wid hei toldMany spot wrong zz past hq) (cwV 0 hts gX6_restore_X6_record rfl rfl rfl (by decide +kernel) ⟨Nat.le_of_ble_eq_true rfl, Nat.le_of_ble_eq_true rfl⟩) (gn_preV hPc hK hN hDc (ci := 5) (q0 := 0) rfl rfl) rfl rfl hl.1 rfl (lv_room (Nat.le_of_ble_eq_true rfl)) dX6_restore_11 ⟨Nat.zero_le _, Nat.zero_le _⟩) hS (fun q _ h => hFc q h) hFc (fun u t H1 locs ht hvm hq hB hz1 hk1 hS => ?_)
    obtain ⟨pastMany__1, past__2⟩ := u
    obtain ⟨hP1, hK1, hD1⟩ := hB
    rw [ht] at hP1
    try dsimp only at hq
    obtain ⟨hP, hD⟩ := va_join (wr := [(aKz, .inl (cI, 207, .inl kz))]) (w1 := [(aM, .inr (5, [.ref aZ, .ref aPast, .int pastMany__1, .ref aKz, .int isKept, .ref aBuf, .int typed, .ref aStk, .ref aLaid, .int wid, .int hei, .ref aPcs, .ref aTold, .int toldMany, .int spot, .int wrong])), (aZ, .inl (cI, 207, .inl zz)), (aPast, .inl (cI, 1035, .inl past__2))]) hP hD [0, 1, 2] [3] rfl rfl (by decide) (by decide) hk1 hFc hP1 hD1
    have hP := hP.sub (ws' := [(aM, .inr (5, [.ref aZ, .ref aPast, .int pastMany__1, .ref aKz, .int isKept, .ref aBuf, .int typed, .ref aStk, .ref aLaid, .int wid, .int hei, .ref aPcs, .ref aTold, .int toldMany, .int spot, .int wrong])), (aZ, .inl (cI, 207, .inl zz)), (aPast, .inl (cI, 1035, .inl past__2)), (aKz, .inl (cI, 207, .inl kz))]) [1, 2, 3, 0] rfl
    have hD := hD.sub (ws' := [(aM, .inr (5, [.ref aZ, .ref aPast, .int pastMany__1, .ref aKz, .int isKept, .ref aBuf, .int typed, .ref aStk, .ref aLaid, .int wid, .int hei, .ref aPcs, .ref aTold, .int toldMany, .int spot, .int wrong])), (aZ, .inl (cI, 207, .inl zz)), (aPast, .inl (cI, 1035, .inl past__2)), (aKz, .inl (cI, 207, .inl kz))]) [1, 2, 3, 0] (by decide) rfl
    generalize H1 = H at hP hS ⊢
    refine lv_iconst (v := 0) hx hb dX6_restore_14 (by decide) ?_
    refine lv_istore_n (lv' := [(1, .int (0 : Int32)), (0, .ref aM)]) hx hb dX6_restore_15 rfl hl (by decide) rfl (fun ls hl => ?_)
    have hq := hq (fun (v1_3 : Int32) (zz__4 : Nat → Int32) => ∀ (H : Heap) (locs : List Loc) (ls : Array Slot), va_P (dC, dI) vwCl [(aM, .inr (5, [.ref aZ, .ref aPast, .int pastMany__1, .ref aKz, .int isKept, .ref aBuf, .int typed, .ref aStk, .ref aLaid, .int wid, .int hei, .ref aPcs, .ref aTold, .int toldMany, .int spot, .int wrong])), (aZ, .inl (cI, 207, .inl zz__4)), (aPast, .inl (cI, 1035, .inl past__2)), (aKz, .inl (cI, 207, .inl kz))] H → va_D A [(aM, .inr (5, [.ref aZ, .ref aPast, .int pastMany__1, .ref aKz, .int isKept, .ref aBuf, .int typed, .ref aStk, .ref aLaid, .int wid, .int hei, .ref aPcs, .ref aTold, .int toldMany, .int spot, .int wrong])), (aZ, .inl (cI, 207, .inl zz__4)), (aPast, .inl (cI, 1035, .inl past__2)), (aKz, .inl (cI, 207, .inl kz))] → va_S A s.heap H locs → lv_has ls 2 [(0, .ref aM), (1, .int v1_3)] → W p l e ({ frames := 1, cells := 0, slots := 0, locals := 21 } : Room) s m ([.ref aM] : List Value).toArray below meth c H locs 0 0 Q (F0 m 16 ls [])) (by
      intro v1_3 zz__4 hq H locs ls hP hD hS hl
      refine lv_iload_n hx hb dX6_restore_16 rfl (lv_at hl 1 rfl) ?_
      refine lv_sipush (v := 207) hx hb dX6_restore_17 (by decide) ?_
      refine lv_icmp_ge (tgt := 41) hx hb dX6_restore_20 (by decide) (fun hc => ?_) (fun hc => ?_)
      · have hq := hq.1 hc
        refine lv_aload_n hx hb dX6_restore_41 rfl (lv_at hl 0 rfl) ?_
        refine va_get (D := (dC, dI)) (ci := 5) (v := .ref aZ) (C := RX6) (T := TX6) (N := 16) hx hb hts iwX6_restore_X6 hown hK hP 0 rfl rfl 0 (by decide) (hts _ kwX6_restore_7) (fun _ h9 => h9) rfl dX6_restore_42 ?_
        refine lv_iconst (v := 0) hx hb dX6_restore_45 (by decide) ?_
        have hin := hq.1
        have hq := hq.2
        refine va_iald hx hb hK hP 1 0 rfl rfl hin dX6_restore_46 ?_
        exact hret _ _ _ _ _ _ _ _ dX6_restore_47 hP hD hS hq
      · have hq := hq.2 hc
        refine lv_aload_n hx hb dX6_restore_23 rfl (lv_at hl 0 rfl) ?_
        refine va_get (D := (dC, dI)) (ci := 5) (v := .ref aZ) (C := RX6) (T := TX6) (N := 16) hx hb hts iwX6_restore_X6 hown hK hP 0 rfl rfl 0 (by decide) (hts _ kwX6_restore_7) (fun _ h9 => h9) rfl dX6_restore_24 ?_
        refine lv_iload_n hx hb dX6_restore_27 rfl (lv_at hl 1 rfl) ?_
        refine lv_aload_n hx hb dX6_restore_28 rfl (lv_at hl 0 rfl) ?_
        refine va_get (D := (dC, dI)) (ci := 5) (v := .ref aKz) (C := RX6) (T := TX6) (N := 16) hx hb hts iwX6_restore_X6 hown hK hP 0 rfl rfl 3 (by decide) (hts _ kwX6_restore_16) (fun _ h9 => h9) rfl dX6_restore_29 ?_
        refine lv_iload_n hx hb dX6_restore_32 rfl (lv_at hl 1 rfl) ?_
        have hin := hq.1
        have hq := hq.2
        refine va_iald hx hb hK hP 3 0 rfl rfl hin dX6_restore_33 ?_
        have hin := hq.1
        have hq := hq.2
        refine va_iast hx hb hK hP hD hS 1 0 rfl rfl hin dX6_restore_34 (fun H locs hP hD hS => ?_)
        have hP : va_P (dC, dI) vwCl [(aM, .inr (5, [.ref aZ, .ref aPast, .int pastMany__1, .ref aKz, .int isKept, .ref aBuf, .int typed, .ref aStk, .ref aLaid, .int wid, .int hei, .ref aPcs, .ref aTold, .int toldMany, .int spot, .int wrong])), (aZ, .inl (cI, 207, .inl (upd zz__4 (v1_3).toNatClampNeg (kz (v1_3).toNatClampNeg)))), (aPast, .inl (cI, 1035, .inl past__2)), (aKz, .inl (cI, 207, .inl kz))] H := hP
        have hD : va_D A [(aM, .inr (5, [.ref aZ, .ref aPast, .int pastMany__1, .ref aKz, .int isKept, .ref aBuf, .int typed, .ref aStk, .ref aLaid, .int wid, .int hei, .ref aPcs, .ref aTold, .int toldMany, .int spot, .int wrong])), (aZ, .inl (cI, 207, .inl (upd zz__4 (v1_3).toNatClampNeg (kz (v1_3).toNatClampNeg)))), (aPast, .inl (cI, 1035, .inl past__2)), (aKz, .inl (cI, 207, .inl kz))] := hD
        refine lv_iinc (v := (v1_3 + (1 : Int32))) (lv' := [(1, .int (v1_3 + (1 : Int32))), (0, .ref aM)]) hx hb dX6_restore_35 hl (k := 1) rfl rfl (by decide) rfl (fun ls hl => ?_)
        refine lv_goto (tgt := 16) hx hb dX6_restore_38 (by decide) ?_
        exact hq _ _ _ hP hD hS (lv_sub hl [1, 0] rfl))
    exact hq _ _ _ hP hD hS (lv_sub hl [1, 0] rfl)
  · have hq := hq.2 hc
    refine lv_bipush (v := -3) hx hb dX6_restore_7 (by decide) ?_
    exact hret _ _ _ _ _ _ _ _ dX6_restore_9 hP hD hS hq
set_option maxRecDepth 20000 in
theorem kwX6_layFold_46 : Cond.fieldLink RX6 46 "PunchedFoldsModel" "width" "I" ∈ wsX6_layFold := by decide +kernel
set_option maxRecDepth 20000 in
theorem iwX6_layFold_X6 : ∀ w ∈ wsX60, w ∈ wsX6_layFold := by decide +kernel
set_option maxRecDepth 20000 in
theorem kwX6_layFold_49 : Cond.fieldLink RX6 49 "PunchedFoldsModel" "height" "I" ∈ wsX6_layFold := by decide +kernel
set_option maxRecDepth 20000 in
theorem kwX6_layFold_23 : Cond.fieldLink RX6 23 "PunchedFoldsModel" "stacks" "[I" ∈ wsX6_layFold := by decide +kernel
set_option maxRecDepth 20000 in
theorem kwX6_layFold_26 : Cond.fieldLink RX6 26 "PunchedFoldsModel" "laid" "[I" ∈ wsX6_layFold := by decide +kernel
set_option maxHeartbeats 4000000 in
set_option maxRecDepth 100000 in
theorem c_X6_layFold (l : Launch) (dC : Nat → ClassId) (dI : Nat → Nat → Nat) (cI cC cS : ClassId) (aM : Nat) (aZ : Nat) (aPast : Nat) (aKz : Nat) (aBuf : Nat) (aStk : Nat) (aLaid : Nat) (aPcs : Nat) (aTold : Nat) (sz : Nat) (pastMany : Int32) (isKept : Int32) (typed : Int32) (wid : Int32) (hei : Int32) (toldMany : Int32) (spot : Int32) (wrong : Int32) (stk : Nat → Int32) (laid : Nat → Int32) (x1 : Int32) {post : Int32 → Int32 → (Nat → Int32) → (Nat → Int32) → Prop} (hq : wp_X6_layFold wid hei stk laid x1 post) : Met l yX6_layFold wsX6_layFold ({ frames := 1, cells := 0, slots := 0, locals := 22 } : Room) (gn_Pre (dC, dI) cI cC cS [.ref aM, .int x1] sz [(aM, .inr (5, [.ref aZ, .ref aPast, .int pastMany, .ref aKz, .int isKept, .ref aBuf, .int typed, .ref aStk, .ref aLaid, .int wid, .int hei, .ref aPcs, .ref aTold, .int toldMany, .int spot, .int wrong])), (aStk, .inl (cI, 64, .inl stk)), (aLaid, .inl (cI, 64, .inl laid))]) (va_Qv (fun (u : Int32 × Int32 × (Nat → Int32) × (Nat → Int32)) => post u.1 u.2.1 u.2.2.1 u.2.2.2) (fun (u : Int32 × Int32 × (Nat → Int32) × (Nat → Int32)) t => va_P (dC, dI) vwCl [(aM, .inr (5, [.ref aZ, .ref aPast, .int pastMany, .ref aKz, .int isKept, .ref aBuf, .int typed, .ref aStk, .ref aLaid, .int u.1, .int u.2.1, .ref aPcs, .ref aTold, .int toldMany, .int spot, .int wrong])), (aStk, .inl (cI, 64, .inl u.2.2.1)), (aLaid, .inl (cI, 64, .inl u.2.2.2))] t.heap ∧ va_K (dC, dI) vwCl (gn_tys cI cC cS) t ∧ va_D (va_A [(aM, .inr (5, [.ref aZ, .ref aPast, .int pastMany, .ref aKz, .int isKept, .ref aBuf, .int typed, .ref aStk, .ref aLaid, .int wid, .int hei, .ref aPcs, .ref aTold, .int toldMany, .int spot, .int wrong])), (aStk, .inl (cI, 64, .inl stk)), (aLaid, .inl (cI, 64, .inl laid))] sz) [(aM, .inr (5, [.ref aZ, .ref aPast, .int pastMany, .ref aKz, .int isKept, .ref aBuf, .int typed, .ref aStk, .ref aLaid, .int u.1, .int u.2.1, .ref aPcs, .ref aTold, .int toldMany, .int spot, .int wrong])), (aStk, .inl (cI, 64, .inl u.2.2.1)), (aLaid, .inl (cI, 64, .inl u.2.2.2))]) (va_A [(aM, .inr (5, [.ref aZ, .ref aPast, .int pastMany, .ref aKz, .int isKept, .ref aBuf, .int typed, .ref aStk, .ref aLaid, .int wid, .int hei, .ref aPcs, .ref aTold, .int toldMany, .int spot, .int wrong])), (aStk, .inl (cI, 64, .inl stk)), (aLaid, .inl (cI, 64, .inl laid))] sz)) 0 0 (va_A [(aM, .inr (5, [.ref aZ, .ref aPast, .int pastMany, .ref aKz, .int isKept, .ref aBuf, .int typed, .ref aStk, .ref aLaid, .int wid, .int hei, .ref aPcs, .ref aTold, .int toldMany, .int spot, .int wrong])), (aStk, .inl (cI, 64, .inl stk)), (aLaid, .inl (cI, 64, .inl laid))] sz) := by
  unfold wp_X6_layFold at hq
  refine Met.ofW (cc := cX6_layFold) (maxL := 11) (ret := none) (by decide) rfl ?_
  intro p e s m args below meth c s₁ B hml hv
  obtain ⟨rfl, hsz, hP, hK, hN, hD0⟩ := hv
  have hx := B.exec
  have hb := B.bytes
  have hr := B.returns
  have hts := atoms_spec (ws := wsX6_layFold) B.pre
  have hown : s.vm.findClass RX6 = some m.cls := findClass_of_methodNamed B.named
  have hlocks := B.notSynchronized
  subst hsz
  have hD := hD0.self (sz := s.heap.size)
  generalize hAe : va_A [(aM, .inr (5, [.ref aZ, .ref aPast, .int pastMany, .ref aKz, .int isKept, .ref aBuf, .int typed, .ref aStk, .ref aLaid, .int wid, .int hei, .ref aPcs, .ref aTold, .int toldMany, .int spot, .int wrong])), (aStk, .inl (cI, 64, .inl stk)), (aLaid, .inl (cI, 64, .inl laid))] s.heap.size = A at hD ⊢
  have hA : ∀ q : Nat, s.heap.size ≤ q → A q := fun q h => by rw [← hAe]; exact Or.inr h
  have hS : va_S A s.heap s.heap [] := va_S.rf
  have hl := lv_entry ([.ref aM, .int x1] : List Value) (n := 11) (Nat.le_of_ble_eq_true rfl)
  rw [lg_entry_eq]
  generalize (lg_sl ([.ref aM, .int x1] : List Value) ++ List.replicate (11 - (lg_sl ([.ref aM, .int x1] : List Value)).length) Slot.unset).toArray = ls at hl ⊢
  have hl : lv_has ls 11 [(0, .ref aM), (1, .int x1)] := hl
  refine gn_Q (hret := fun Q => ∀ (pc : Nat) (ls : Array Slot) (H : Heap) (locs : List Loc) (m_wid : Int32) (m_hei : Int32) (m_stk : Nat → Int32) (m_laid : Nat → Int32), decode cX6_layFold pc = .ok (.return_, 1) → va_P (dC, dI) vwCl [(aM, .inr (5, [.ref aZ, .ref aPast, .int pastMany, .ref aKz, .int isKept, .ref aBuf, .int typed, .ref aStk, .ref aLaid, .int m_wid, .int m_hei, .ref aPcs, .ref aTold, .int toldMany, .int spot, .int wrong])), (aStk, .inl (cI, 64, .inl m_stk)), (aLaid, .inl (cI, 64, .inl m_laid))] H → va_D A [(aM, .inr (5, [.ref aZ, .ref aPast, .int pastMany, .ref aKz, .int isKept, .ref aBuf, .int typed, .ref aStk, .ref aLaid, .int m_wid, .int m_hei, .ref aPcs, .ref aTold, .int toldMany, .int spot, .int wrong])), (aStk, .inl (cI, 64, .inl m_stk)), (aLaid, .inl (cI, 64, .inl m_laid))] → va_S A s.heap H locs → post m_wid m_hei m_stk m_laid → W p l e ({ frames := 1, cells := 0, slots := 0, locals := 22 } : Room) s m ([.ref aM, .int x1] : List Value).toArray below meth c H locs 0 0 Q (F0 m pc ls [])) (fun Q hret => ?_) ?_
  rotate_left
  · intro pc ls H locs m_wid m_hei m_stk m_laid hdg hP hD hS hpost
    exact W.vret hx hb hr (fun t ht hW => ⟨⟨(m_wid, m_hei, m_stk, m_laid), rfl, hpost, by rw [ht]; exact hP, va_K.moved hW.alike hK, hD⟩, hS.F ht⟩) hS.2.2 hdg
  refine lv_aload_n hx hb dX6_layFold_0 rfl (lv_at hl 0 rfl) ?_
  have hPc := hP.sub (ws' := [(aM, .inr (5, [.ref aZ, .ref aPast, .int pastMany, .ref aKz, .int isKept, .ref aBuf, .int typed, .ref aStk, .ref aLaid, .int wid, .int hei, .ref aPcs, .ref aTold, .int toldMany, .int spot, .int wrong]))]) [0] rfl
  have hDc := hD.sub (ws' := [(aM, .inr (5, [.ref aZ, .ref aPast, .int pastMany, .ref aKz, .int isKept, .ref aBuf, .int typed, .ref aStk, .ref aLaid, .int wid, .int hei, .ref aPcs, .ref aTold, .int toldMany, .int spot, .int wrong]))]) [0] (by decide) rfl
  have hFc := va_free (wc := [(aM, .inr (5, [.ref aZ, .ref aPast, .int pastMany, .ref aKz, .int isKept, .ref aBuf, .int typed, .ref aStk, .ref aLaid, .int wid, .int hei, .ref aPcs, .ref aTold, .int toldMany, .int spot, .int wrong]))]) hD hS hA [0] rfl
  refine va_calli (va_runV (As := []) (rest := []) ⟨hx, hb, hml, hown, hts⟩ (c_X6_layers l dC dI cI cC cS aM aZ aPast aKz aBuf aStk aLaid aPcs aTold _ pastMany isKept typed wid hei toldMany spot wrong hq) (cwV 0 hts gX6_layFold_X6_layers rfl rfl rfl (by decide +kernel) ⟨Nat.le_of_ble_eq_true rfl, Nat.le_of_ble_eq_true rfl⟩) (gn_preV hPc hK hN hDc (ci := 5) (q0 := 0) rfl rfl) rfl rfl hl.1 rfl (lv_room (Nat.le_of_ble_eq_true rfl)) dX6_layFold_1 ⟨Nat.zero_le _, Nat.zero_le _⟩) hS (fun q _ h => hFc q h) hFc (fun r_1 u t H1 locs ht hvm hq hB hz1 hk1 hS => ?_)
  obtain ⟨hP1, hK1, hD1⟩ := hB
  rw [ht] at hP1
  try dsimp only at hq
  obtain ⟨hP, hD⟩ := va_join (wr := [(aStk, .inl (cI, 64, .inl stk)), (aLaid, .inl (cI, 64, .inl laid))]) (w1 := [(aM, .inr (5, [.ref aZ, .ref aPast, .int pastMany, .ref aKz, .int isKept, .ref aBuf, .int typed, .ref aStk, .ref aLaid, .int wid, .int hei, .ref aPcs, .ref aTold, .int toldMany, .int spot, .int wrong]))]) hP hD [0] [1, 2] rfl rfl (by decide) (by decide) hk1 hFc hP1 hD1
  have hP := hP.sub (ws' := [(aM, .inr (5, [.ref aZ, .ref aPast, .int pastMany, .ref aKz, .int isKept, .ref aBuf, .int typed, .ref aStk, .ref aLaid, .int wid, .int hei, .ref aPcs, .ref aTold, .int toldMany, .int spot, .int wrong])), (aStk, .inl (cI, 64, .inl stk)), (aLaid, .inl (cI, 64, .inl laid))]) [2, 0, 1] rfl
  have hD := hD.sub (ws' := [(aM, .inr (5, [.ref aZ, .ref aPast, .int pastMany, .ref aKz, .int isKept, .ref aBuf, .int typed, .ref aStk, .ref aLaid, .int wid, .int hei, .ref aPcs, .ref aTold, .int toldMany, .int spot, .int wrong])), (aStk, .inl (cI, 64, .inl stk)), (aLaid, .inl (cI, 64, .inl laid))]) [2, 0, 1] (by decide) rfl
  generalize H1 = H at hP hS ⊢
  refine lv_istore_n (lv' := [(2, .int r_1), (0, .ref aM), (1, .int x1)]) hx hb dX6_layFold_4 rfl hl (by decide) rfl (fun ls hl => ?_)
  refine lv_iload_n hx hb dX6_layFold_5 rfl (lv_at hl 2 rfl) ?_
  refine lv_iconst (v := 2) hx hb dX6_layFold_6 (by decide) ?_
  have hq := hq (fun (t_2 : Int32) => ∀ (H : Heap) (locs : List Loc) (ls : Array Slot), va_P (dC, dI) vwCl [(aM, .inr (5, [.ref aZ, .ref aPast, .int pastMany, .ref aKz, .int isKept, .ref aBuf, .int typed, .ref aStk, .ref aLaid, .int wid, .int hei, .ref aPcs, .ref aTold, .int toldMany, .int spot, .int wrong])), (aStk, .inl (cI, 64, .inl stk)), (aLaid, .inl (cI, 64, .inl laid))] H → va_D A [(aM, .inr (5, [.ref aZ, .ref aPast, .int pastMany, .ref aKz, .int isKept, .ref aBuf, .int typed, .ref aStk, .ref aLaid, .int wid, .int hei, .ref aPcs, .ref aTold, .int toldMany, .int spot, .int wrong])), (aStk, .inl (cI, 64, .inl stk)), (aLaid, .inl (cI, 64, .inl laid))] → va_S A s.heap H locs → lv_has ls 11 [(0, .ref aM), (1, .int x1), (2, .int r_1)] → W p l e ({ frames := 1, cells := 0, slots := 0, locals := 22 } : Room) s m ([.ref aM, .int x1] : List Value).toArray below meth c H locs 0 0 Q (F0 m 23 ls [.int t_2])) (by
    intro t_2 hq H locs ls hP hD hS hl
    refine lv_istore_n (lv' := [(3, .int t_2), (0, .ref aM), (1, .int x1), (2, .int r_1)]) hx hb dX6_layFold_23 rfl hl (by decide) rfl (fun ls hl => ?_)
    refine lv_iload_n hx hb dX6_layFold_24 rfl (lv_at hl 2 rfl) ?_
    refine lv_iconst (v := 2) hx hb dX6_layFold_25 (by decide) ?_
    have hq := hq (fun (t_3 : Int32) => ∀ (H : Heap) (locs : List Loc) (ls : Array Slot), va_P (dC, dI) vwCl [(aM, .inr (5, [.ref aZ, .ref aPast, .int pastMany, .ref aKz, .int isKept, .ref aBuf, .int typed, .ref aStk, .ref aLaid, .int wid, .int hei, .ref aPcs, .ref aTold, .int toldMany, .int spot, .int wrong])), (aStk, .inl (cI, 64, .inl stk)), (aLaid, .inl (cI, 64, .inl laid))] H → va_D A [(aM, .inr (5, [.ref aZ, .ref aPast, .int pastMany, .ref aKz, .int isKept, .ref aBuf, .int typed, .ref aStk, .ref aLaid, .int wid, .int hei, .ref aPcs, .ref aTold, .int toldMany, .int spot, .int wrong])), (aStk, .inl (cI, 64, .inl stk)), (aLaid, .inl (cI, 64, .inl laid))] → va_S A s.heap H locs → lv_has ls 11 [(0, .ref aM), (1, .int x1), (2, .int r_1), (3, .int t_2)] → W p l e ({ frames := 1, cells := 0, slots := 0, locals := 22 } : Room) s m ([.ref aM, .int x1] : List Value).toArray below meth c H locs 0 0 Q (F0 m 42 ls [.int t_3])) (by
      intro t_3 hq H locs ls hP hD hS hl
      refine lv_istore (lv' := [(4, .int t_3), (0, .ref aM), (1, .int x1), (2, .int r_1), (3, .int t_2)]) hx hb dX6_layFold_42 hl (by decide) rfl (fun ls hl => ?_)
      refine lv_iconst (v := 0) hx hb dX6_layFold_44 (by decide) ?_
      refine lv_istore (lv' := [(5, .int (0 : Int32)), (4, .int t_3), (0, .ref aM), (1, .int x1), (2, .int r_1), (3, .int t_2)]) hx hb dX6_layFold_45 hl (by decide) rfl (fun ls hl => ?_)
      have hq := hq (fun (v5_4 : Int32) (laid__5 : Nat → Int32) => ∀ (H : Heap) (locs : List Loc) (ls : Array Slot), va_P (dC, dI) vwCl [(aM, .inr (5, [.ref aZ, .ref aPast, .int pastMany, .ref aKz, .int isKept, .ref aBuf, .int typed, .ref aStk, .ref aLaid, .int wid, .int hei, .ref aPcs, .ref aTold, .int toldMany, .int spot, .int wrong])), (aStk, .inl (cI, 64, .inl stk)), (aLaid, .inl (cI, 64, .inl laid__5))] H → va_D A [(aM, .inr (5, [.ref aZ, .ref aPast, .int pastMany, .ref aKz, .int isKept, .ref aBuf, .int typed, .ref aStk, .ref aLaid, .int wid, .int hei, .ref aPcs, .ref aTold, .int toldMany, .int spot, .int wrong])), (aStk, .inl (cI, 64, .inl stk)), (aLaid, .inl (cI, 64, .inl laid__5))] → va_S A s.heap H locs → lv_has ls 11 [(0, .ref aM), (1, .int x1), (2, .int r_1), (3, .int t_2), (4, .int t_3), (5, .int v5_4)] → W p l e ({ frames := 1, cells := 0, slots := 0, locals := 22 } : Room) s m ([.ref aM, .int x1] : List Value).toArray below meth c H locs 0 0 Q (F0 m 47 ls [])) (by
        intro v5_4 laid__5 hq H locs ls hP hD hS hl
        refine lv_iload hx hb dX6_layFold_47 (lv_at hl 5 rfl) ?_
        refine lv_iload hx hb dX6_layFold_49 (lv_at hl 4 rfl) ?_
        refine lv_icmp_ge (tgt := 269) hx hb dX6_layFold_51 (by decide) (fun hc => ?_) (fun hc => ?_)
        · have hq := hq.1 hc
          refine lv_iconst (v := 0) hx hb dX6_layFold_269 (by decide) ?_
          refine lv_istore (lv' := [(5, .int (0 : Int32)), (0, .ref aM), (1, .int x1), (2, .int r_1), (3, .int t_2), (4, .int t_3)]) hx hb dX6_layFold_270 hl (by decide) rfl (fun ls hl => ?_)
          have hq := hq (fun (v5_6 : Int32) (stk__7 : Nat → Int32) => ∀ (H : Heap) (locs : List Loc) (ls : Array Slot), va_P (dC, dI) vwCl [(aM, .inr (5, [.ref aZ, .ref aPast, .int pastMany, .ref aKz, .int isKept, .ref aBuf, .int typed, .ref aStk, .ref aLaid, .int wid, .int hei, .ref aPcs, .ref aTold, .int toldMany, .int spot, .int wrong])), (aStk, .inl (cI, 64, .inl stk__7)), (aLaid, .inl (cI, 64, .inl laid__5))] H → va_D A [(aM, .inr (5, [.ref aZ, .ref aPast, .int pastMany, .ref aKz, .int isKept, .ref aBuf, .int typed, .ref aStk, .ref aLaid, .int wid, .int hei, .ref aPcs, .ref aTold, .int toldMany, .int spot, .int wrong])), (aStk, .inl (cI, 64, .inl stk__7)), (aLaid, .inl (cI, 64, .inl laid__5))] → va_S A s.heap H locs → lv_has ls 11 [(0, .ref aM), (3, .int t_2), (4, .int t_3), (5, .int v5_6)] → W p l e ({ frames := 1, cells := 0, slots := 0, locals := 22 } : Room) s m ([.ref aM, .int x1] : List Value).toArray below meth c H locs 0 0 Q (F0 m 272 ls [])) (by
            intro v5_6 stk__7 hq H locs ls hP hD hS hl
            refine lv_iload hx hb dX6_layFold_272 (lv_at hl 3 rfl) ?_
            refine lv_bipush (v := 64) hx hb dX6_layFold_274 (by decide) ?_
            refine lv_icmp_ge (tgt := 299) hx hb dX6_layFold_276 (by decide) (fun hc => ?_) (fun hc => ?_)
            · have hq := hq.1 hc
              refine lv_aload_n hx hb dX6_layFold_299 rfl (lv_at hl 0 rfl) ?_
              refine lv_iload_n hx hb dX6_layFold_300 rfl (lv_at hl 1 rfl) ?_
              refine va_put (D := (dC, dI)) (ci := 5) (v := .int t_2) (ty := .int) (C := RX6) (T := TX6) (N := 16) hx hb hts iwX6_layFold_X6 tyX6 tyX6_ok nmX6 hown hK hP hD hS 0 rfl rfl 9 (by decide) (hts _ kwX6_layFold_46) (fun _ h9 => h9) rfl (by decide +kernel) rfl rfl (Nat.le_of_ble_eq_true rfl) dX6_layFold_301 (fun H locs hP hD hS => ?_)
              have hP : va_P (dC, dI) vwCl [(aM, .inr (5, [.ref aZ, .ref aPast, .int pastMany, .ref aKz, .int isKept, .ref aBuf, .int typed, .ref aStk, .ref aLaid, .int t_2, .int hei, .ref aPcs, .ref aTold, .int toldMany, .int spot, .int wrong])), (aStk, .inl (cI, 64, .inl stk__7)), (aLaid, .inl (cI, 64, .inl laid__5))] H := hP
              have hD : va_D A [(aM, .inr (5, [.ref aZ, .ref aPast, .int pastMany, .ref aKz, .int isKept, .ref aBuf, .int typed, .ref aStk, .ref aLaid, .int t_2, .int hei, .ref aPcs, .ref aTold, .int toldMany, .int spot, .int wrong])), (aStk, .inl (cI, 64, .inl stk__7)), (aLaid, .inl (cI, 64, .inl laid__5))] := hD
              refine lv_aload_n hx hb dX6_layFold_304 rfl (lv_at hl 0 rfl) ?_
              refine lv_iload hx hb dX6_layFold_305 (lv_at hl 2 rfl) ?_
              refine va_put (D := (dC, dI)) (ci := 5) (v := .int t_3) (ty := .int) (C := RX6) (T := TX6) (N := 16) hx hb hts iwX6_layFold_X6 tyX6 tyX6_ok nmX6 hown hK hP hD hS 0 rfl rfl 10 (by decide) (hts _ kwX6_layFold_49) (fun _ h9 => h9) rfl (by decide +kernel) rfl rfl (Nat.le_of_ble_eq_true rfl) dX6_layFold_307 (fun H locs hP hD hS => ?_)
              have hP : va_P (dC, dI) vwCl [(aM, .inr (5, [.ref aZ, .ref aPast, .int pastMany, .ref aKz, .int isKept, .ref aBuf, .int typed, .ref aStk, .ref aLaid, .int t_2, .int t_3, .ref aPcs, .ref aTold, .int toldMany, .int spot, .int wrong])), (aStk, .inl (cI, 64, .inl stk__7)), (aLaid, .inl (cI, 64, .inl laid__5))] H := hP
              have hD : va_D A [(aM, .inr (5, [.ref aZ, .ref aPast, .int pastMany, .ref aKz, .int isKept, .ref aBuf, .int typed, .ref aStk, .ref aLaid, .int t_2, .int t_3, .ref aPcs, .ref aTold, .int toldMany, .int spot, .int wrong])), (aStk, .inl (cI, 64, .inl stk__7)), (aLaid, .inl (cI, 64, .inl laid__5))] := hD
              exact hret _ _ _ _ _ _ _ _ dX6_layFold_310 hP hD hS hq
            · have hq := hq.2 hc
              refine lv_aload_n hx hb dX6_layFold_279 rfl (lv_at hl 0 rfl) ?_
              refine va_get (D := (dC, dI)) (ci := 5) (v := .ref aStk) (C := RX6) (T := TX6) (N := 16) hx hb hts iwX6_layFold_X6 hown hK hP 0 rfl rfl 7 (by decide) (hts _ kwX6_layFold_23) (fun _ h9 => h9) rfl dX6_layFold_280 ?_
              refine lv_iload hx hb dX6_layFold_283 (lv_at hl 3 rfl) ?_
              refine lv_aload_n hx hb dX6_layFold_285 rfl (lv_at hl 0 rfl) ?_
              refine va_get (D := (dC, dI)) (ci := 5) (v := .ref aLaid) (C := RX6) (T := TX6) (N := 16) hx hb hts iwX6_layFold_X6 hown hK hP 0 rfl rfl 8 (by decide) (hts _ kwX6_layFold_26) (fun _ h9 => h9) rfl dX6_layFold_286 ?_
              refine lv_iload hx hb dX6_layFold_289 (lv_at hl 3 rfl) ?_
              have hin := hq.1
              have hq := hq.2
              refine va_iald hx hb hK hP 2 0 rfl rfl hin dX6_layFold_291 ?_
              have hin := hq.1
              have hq := hq.2
              refine va_iast hx hb hK hP hD hS 1 0 rfl rfl hin dX6_layFold_292 (fun H locs hP hD hS => ?_)
              have hP : va_P (dC, dI) vwCl [(aM, .inr (5, [.ref aZ, .ref aPast, .int pastMany, .ref aKz, .int isKept, .ref aBuf, .int typed, .ref aStk, .ref aLaid, .int wid, .int hei, .ref aPcs, .ref aTold, .int toldMany, .int spot, .int wrong])), (aStk, .inl (cI, 64, .inl (upd stk__7 (v5_6).toNatClampNeg (laid__5 (v5_6).toNatClampNeg)))), (aLaid, .inl (cI, 64, .inl laid__5))] H := hP
              have hD : va_D A [(aM, .inr (5, [.ref aZ, .ref aPast, .int pastMany, .ref aKz, .int isKept, .ref aBuf, .int typed, .ref aStk, .ref aLaid, .int wid, .int hei, .ref aPcs, .ref aTold, .int toldMany, .int spot, .int wrong])), (aStk, .inl (cI, 64, .inl (upd stk__7 (v5_6).toNatClampNeg (laid__5 (v5_6).toNatClampNeg)))), (aLaid, .inl (cI, 64, .inl laid__5))] := hD
              refine lv_iinc (v := (v5_6 + (1 : Int32))) (lv' := [(5, .int (v5_6 + (1 : Int32))), (0, .ref aM), (3, .int t_2), (4, .int t_3)]) hx hb dX6_layFold_293 hl (k := 3) rfl rfl (by decide) rfl (fun ls hl => ?_)
              refine lv_goto (tgt := 272) hx hb dX6_layFold_296 (by decide) ?_
              exact hq _ _ _ hP hD hS (lv_sub hl [1, 2, 3, 0] rfl))
          exact hq _ _ _ hP hD hS (lv_sub hl [1, 4, 5, 0] rfl)
        · have hq := hq.2 hc
          refine lv_iconst (v := 0) hx hb dX6_layFold_54 (by decide) ?_
          refine lv_istore (lv' := [(6, .int (0 : Int32)), (0, .ref aM), (1, .int x1), (2, .int r_1), (3, .int t_2), (4, .int t_3), (5, .int v5_4)]) hx hb dX6_layFold_55 hl (by decide) rfl (fun ls hl => ?_)
          have hq := hq (fun (v6_8 : Int32) (laid__9 : Nat → Int32) => ∀ (H : Heap) (locs : List Loc) (ls : Array Slot), va_P (dC, dI) vwCl [(aM, .inr (5, [.ref aZ, .ref aPast, .int pastMany, .ref aKz, .int isKept, .ref aBuf, .int typed, .ref aStk, .ref aLaid, .int wid, .int hei, .ref aPcs, .ref aTold, .int toldMany, .int spot, .int wrong])), (aStk, .inl (cI, 64, .inl stk)), (aLaid, .inl (cI, 64, .inl laid__9))] H → va_D A [(aM, .inr (5, [.ref aZ, .ref aPast, .int pastMany, .ref aKz, .int isKept, .ref aBuf, .int typed, .ref aStk, .ref aLaid, .int wid, .int hei, .ref aPcs, .ref aTold, .int toldMany, .int spot, .int wrong])), (aStk, .inl (cI, 64, .inl stk)), (aLaid, .inl (cI, 64, .inl laid__9))] → va_S A s.heap H locs → lv_has ls 11 [(0, .ref aM), (1, .int x1), (2, .int r_1), (3, .int t_2), (4, .int t_3), (5, .int v5_4), (6, .int v6_8)] → W p l e ({ frames := 1, cells := 0, slots := 0, locals := 22 } : Room) s m ([.ref aM, .int x1] : List Value).toArray below meth c H locs 0 0 Q (F0 m 57 ls [])) (by
            intro v6_8 laid__9 hq H locs ls hP hD hS hl
            refine lv_iload hx hb dX6_layFold_57 (lv_at hl 6 rfl) ?_
            refine lv_iload_n hx hb dX6_layFold_59 rfl (lv_at hl 3 rfl) ?_
            refine lv_icmp_ge (tgt := 263) hx hb dX6_layFold_60 (by decide) (fun hc => ?_) (fun hc => ?_)
            · have hq := hq.1 hc
              refine lv_iinc (v := (v5_4 + (1 : Int32))) (lv' := [(5, .int (v5_4 + (1 : Int32))), (0, .ref aM), (1, .int x1), (2, .int r_1), (3, .int t_2), (4, .int t_3), (6, .int v6_8)]) hx hb dX6_layFold_263 hl (k := 5) rfl rfl (by decide) rfl (fun ls hl => ?_)
              refine lv_goto (tgt := 47) hx hb dX6_layFold_266 (by decide) ?_
              exact hq _ _ _ hP hD hS (lv_sub hl [1, 2, 3, 4, 5, 0] rfl)
            · have hq := hq.2 hc
              refine lv_iload_n hx hb dX6_layFold_63 rfl (lv_at hl 1 rfl) ?_
              have hq := hq (fun (t_10 : Int32) => ∀ (H : Heap) (locs : List Loc) (ls : Array Slot), va_P (dC, dI) vwCl [(aM, .inr (5, [.ref aZ, .ref aPast, .int pastMany, .ref aKz, .int isKept, .ref aBuf, .int typed, .ref aStk, .ref aLaid, .int wid, .int hei, .ref aPcs, .ref aTold, .int toldMany, .int spot, .int wrong])), (aStk, .inl (cI, 64, .inl stk)), (aLaid, .inl (cI, 64, .inl laid__9))] H → va_D A [(aM, .inr (5, [.ref aZ, .ref aPast, .int pastMany, .ref aKz, .int isKept, .ref aBuf, .int typed, .ref aStk, .ref aLaid, .int wid, .int hei, .ref aPcs, .ref aTold, .int toldMany, .int spot, .int wrong])), (aStk, .inl (cI, 64, .inl stk)), (aLaid, .inl (cI, 64, .inl laid__9))] → va_S A s.heap H locs → lv_has ls 11 [(0, .ref aM), (1, .int x1), (2, .int r_1), (3, .int t_2), (4, .int t_3), (5, .int v5_4), (6, .int v6_8)] → W p l e ({ frames := 1, cells := 0, slots := 0, locals := 22 } : Room) s m ([.ref aM, .int x1] : List Value).toArray below meth c H locs 0 0 Q (F0 m 76 ls [.int t_10])) (by
                intro t_10 hq H locs ls hP hD hS hl
                refine lv_iload_n hx hb dX6_layFold_76 rfl (lv_at hl 1 rfl) ?_
                refine lv_iconst (v := 2) hx hb dX6_layFold_77 (by decide) ?_
                have hq := hq (fun (t_11 : Int32) => ∀ (H : Heap) (locs : List Loc) (ls : Array Slot), va_P (dC, dI) vwCl [(aM, .inr (5, [.ref aZ, .ref aPast, .int pastMany, .ref aKz, .int isKept, .ref aBuf, .int typed, .ref aStk, .ref aLaid, .int wid, .int hei, .ref aPcs, .ref aTold, .int toldMany, .int spot, .int wrong])), (aStk, .inl (cI, 64, .inl stk)), (aLaid, .inl (cI, 64, .inl laid__9))] H → va_D A [(aM, .inr (5, [.ref aZ, .ref aPast, .int pastMany, .ref aKz, .int isKept, .ref aBuf, .int typed, .ref aStk, .ref aLaid, .int wid, .int hei, .ref aPcs, .ref aTold, .int toldMany, .int spot, .int wrong])), (aStk, .inl (cI, 64, .inl stk)), (aLaid, .inl (cI, 64, .inl laid__9))] → va_S A s.heap H locs → lv_has ls 11 [(0, .ref aM), (1, .int x1), (2, .int r_1), (3, .int t_2), (4, .int t_3), (5, .int v5_4), (6, .int v6_8)] → W p l e ({ frames := 1, cells := 0, slots := 0, locals := 22 } : Room) s m ([.ref aM, .int x1] : List Value).toArray below meth c H locs 0 0 Q (F0 m 91 ls [.int t_11, .int t_10])) (by
                  intro t_11 hq H locs ls hP hD hS hl
                  refine lv_aload_n hx hb dX6_layFold_91 rfl (lv_at hl 0 rfl) ?_
                  refine va_get (D := (dC, dI)) (ci := 5) (v := .int wid) (C := RX6) (T := TX6) (N := 16) hx hb hts iwX6_layFold_X6 hown hK hP 0 rfl rfl 9 (by decide) (hts _ kwX6_layFold_46) (fun _ h9 => h9) rfl dX6_layFold_92 ?_
                  have hPc := hP.sub (ws' := []) [] rfl
                  have hDc := hD.sub (ws' := []) [] (by decide) rfl
                  have hFc := va_free (wc := []) hD hS hA [] rfl
                  refine va_calli (va_runS (As := [.int t_10, .int t_11, .int wid]) (rest := []) ⟨hx, hb, hml, hown, hts⟩ (c_X6_field l dC dI cI cC cS _ t_10 t_11 wid hq) (va_cwS 3 hts gX6_layFold_X6_field rfl rfl rfl (by decide +kernel) ⟨Nat.le_of_ble_eq_true rfl, Nat.le_of_ble_eq_true rfl⟩) (gn_preS hPc hK hN hDc) rfl rfl hl.1 rfl (lv_room (Nat.le_of_ble_eq_true rfl)) dX6_layFold_95 ⟨Nat.zero_le _, Nat.zero_le _⟩) hS (fun q _ h => hFc q h) hFc (fun r_12 u t H1 locs ht hvm hq hB hz1 hk1 hS => ?_)
                  obtain ⟨hP1, hK1, hD1⟩ := hB
                  rw [ht] at hP1
                  try dsimp only at hq
                  obtain ⟨hP, hD⟩ := va_join (wr := [(aM, .inr (5, [.ref aZ, .ref aPast, .int pastMany, .ref aKz, .int isKept, .ref aBuf, .int typed, .ref aStk, .ref aLaid, .int wid, .int hei, .ref aPcs, .ref aTold, .int toldMany, .int spot, .int wrong])), (aStk, .inl (cI, 64, .inl stk)), (aLaid, .inl (cI, 64, .inl laid__9))]) (w1 := []) hP hD [] [0, 1, 2] rfl rfl (by decide) (by decide) hk1 hFc hP1 hD1
                  have hP := hP.sub (ws' := [(aM, .inr (5, [.ref aZ, .ref aPast, .int pastMany, .ref aKz, .int isKept, .ref aBuf, .int typed, .ref aStk, .ref aLaid, .int wid, .int hei, .ref aPcs, .ref aTold, .int toldMany, .int spot, .int wrong])), (aStk, .inl (cI, 64, .inl stk)), (aLaid, .inl (cI, 64, .inl laid__9))]) [0, 1, 2] rfl
                  have hD := hD.sub (ws' := [(aM, .inr (5, [.ref aZ, .ref aPast, .int pastMany, .ref aKz, .int isKept, .ref aBuf, .int typed, .ref aStk, .ref aLaid, .int wid, .int hei, .ref aPcs, .ref aTold, .int toldMany, .int spot, .int wrong])), (aStk, .inl (cI, 64, .inl stk)), (aLaid, .inl (cI, 64, .inl laid__9))]) [0, 1, 2] (by decide) rfl
                  generalize H1 = H at hP hS ⊢
                  refine lv_istore (lv' := [(7, .int r_12), (0, .ref aM), (1, .int x1), (2, .int r_1), (3, .int t_2), (4, .int t_3), (5, .int v5_4), (6, .int v6_8)]) hx hb dX6_layFold_98 hl (by decide) rfl (fun ls hl => ?_)
                  refine lv_iload_n hx hb dX6_layFold_100 rfl (lv_at hl 2 rfl) ?_
                  have hq := hq (fun (t_13 : Int32) => ∀ (H : Heap) (locs : List Loc) (ls : Array Slot), va_P (dC, dI) vwCl [(aM, .inr (5, [.ref aZ, .ref aPast, .int pastMany, .ref aKz, .int isKept, .ref aBuf, .int typed, .ref aStk, .ref aLaid, .int wid, .int hei, .ref aPcs, .ref aTold, .int toldMany, .int spot, .int wrong])), (aStk, .inl (cI, 64, .inl stk)), (aLaid, .inl (cI, 64, .inl laid__9))] H → va_D A [(aM, .inr (5, [.ref aZ, .ref aPast, .int pastMany, .ref aKz, .int isKept, .ref aBuf, .int typed, .ref aStk, .ref aLaid, .int wid, .int hei, .ref aPcs, .ref aTold, .int toldMany, .int spot, .int wrong])), (aStk, .inl (cI, 64, .inl stk)), (aLaid, .inl (cI, 64, .inl laid__9))] → va_S A s.heap H locs → lv_has ls 11 [(0, .ref aM), (1, .int x1), (2, .int r_1), (3, .int t_2), (4, .int t_3), (5, .int v5_4), (6, .int v6_8), (7, .int r_12)] → W p l e ({ frames := 1, cells := 0, slots := 0, locals := 22 } : Room) s m ([.ref aM, .int x1] : List Value).toArray below meth c H locs 0 0 Q (F0 m 132 ls [.int t_13])) (by
                    intro t_13 hq H locs ls hP hD hS hl
                    refine lv_iload_n hx hb dX6_layFold_132 rfl (lv_at hl 1 rfl) ?_
                    refine lv_iconst (v := 2) hx hb dX6_layFold_133 (by decide) ?_
                    have hq := hq (fun (t_14 : Int32) => ∀ (H : Heap) (locs : List Loc) (ls : Array Slot), va_P (dC, dI) vwCl [(aM, .inr (5, [.ref aZ, .ref aPast, .int pastMany, .ref aKz, .int isKept, .ref aBuf, .int typed, .ref aStk, .ref aLaid, .int wid, .int hei, .ref aPcs, .ref aTold, .int toldMany, .int spot, .int wrong])), (aStk, .inl (cI, 64, .inl stk)), (aLaid, .inl (cI, 64, .inl laid__9))] H → va_D A [(aM, .inr (5, [.ref aZ, .ref aPast, .int pastMany, .ref aKz, .int isKept, .ref aBuf, .int typed, .ref aStk, .ref aLaid, .int wid, .int hei, .ref aPcs, .ref aTold, .int toldMany, .int spot, .int wrong])), (aStk, .inl (cI, 64, .inl stk)), (aLaid, .inl (cI, 64, .inl laid__9))] → va_S A s.heap H locs → lv_has ls 11 [(0, .ref aM), (1, .int x1), (2, .int r_1), (3, .int t_2), (4, .int t_3), (5, .int v5_4), (6, .int v6_8), (7, .int r_12)] → W p l e ({ frames := 1, cells := 0, slots := 0, locals := 22 } : Room) s m ([.ref aM, .int x1] : List Value).toArray below meth c H locs 0 0 Q (F0 m 166 ls [.int t_14, .int t_13])) (by
                      intro t_14 hq H locs ls hP hD hS hl
                      refine lv_aload_n hx hb dX6_layFold_166 rfl (lv_at hl 0 rfl) ?_
                      refine va_get (D := (dC, dI)) (ci := 5) (v := .int wid) (C := RX6) (T := TX6) (N := 16) hx hb hts iwX6_layFold_X6 hown hK hP 0 rfl rfl 9 (by decide) (hts _ kwX6_layFold_46) (fun _ h9 => h9) rfl dX6_layFold_167 ?_
                      have hPc := hP.sub (ws' := []) [] rfl
                      have hDc := hD.sub (ws' := []) [] (by decide) rfl
                      have hFc := va_free (wc := []) hD hS hA [] rfl
                      refine va_calli (va_runS (As := [.int t_13, .int t_14, .int wid]) (rest := []) ⟨hx, hb, hml, hown, hts⟩ (c_X6_field l dC dI cI cC cS _ t_13 t_14 wid hq) (va_cwS 3 hts gX6_layFold_X6_field rfl rfl rfl (by decide +kernel) ⟨Nat.le_of_ble_eq_true rfl, Nat.le_of_ble_eq_true rfl⟩) (gn_preS hPc hK hN hDc) rfl rfl hl.1 rfl (lv_room (Nat.le_of_ble_eq_true rfl)) dX6_layFold_170 ⟨Nat.zero_le _, Nat.zero_le _⟩) hS (fun q _ h => hFc q h) hFc (fun r_15 u t H1 locs ht hvm hq hB hz1 hk1 hS => ?_)
                      obtain ⟨hP1, hK1, hD1⟩ := hB
                      rw [ht] at hP1
                      try dsimp only at hq
                      obtain ⟨hP, hD⟩ := va_join (wr := [(aM, .inr (5, [.ref aZ, .ref aPast, .int pastMany, .ref aKz, .int isKept, .ref aBuf, .int typed, .ref aStk, .ref aLaid, .int wid, .int hei, .ref aPcs, .ref aTold, .int toldMany, .int spot, .int wrong])), (aStk, .inl (cI, 64, .inl stk)), (aLaid, .inl (cI, 64, .inl laid__9))]) (w1 := []) hP hD [] [0, 1, 2] rfl rfl (by decide) (by decide) hk1 hFc hP1 hD1
                      have hP := hP.sub (ws' := [(aM, .inr (5, [.ref aZ, .ref aPast, .int pastMany, .ref aKz, .int isKept, .ref aBuf, .int typed, .ref aStk, .ref aLaid, .int wid, .int hei, .ref aPcs, .ref aTold, .int toldMany, .int spot, .int wrong])), (aStk, .inl (cI, 64, .inl stk)), (aLaid, .inl (cI, 64, .inl laid__9))]) [0, 1, 2] rfl
                      have hD := hD.sub (ws' := [(aM, .inr (5, [.ref aZ, .ref aPast, .int pastMany, .ref aKz, .int isKept, .ref aBuf, .int typed, .ref aStk, .ref aLaid, .int wid, .int hei, .ref aPcs, .ref aTold, .int toldMany, .int spot, .int wrong])), (aStk, .inl (cI, 64, .inl stk)), (aLaid, .inl (cI, 64, .inl laid__9))]) [0, 1, 2] (by decide) rfl
                      generalize H1 = H at hP hS ⊢
                      refine lv_istore (lv' := [(8, .int r_15), (0, .ref aM), (1, .int x1), (2, .int r_1), (3, .int t_2), (4, .int t_3), (5, .int v5_4), (6, .int v6_8), (7, .int r_12)]) hx hb dX6_layFold_173 hl (by decide) rfl (fun ls hl => ?_)
                      refine lv_iload hx hb dX6_layFold_175 (lv_at hl 7 rfl) ?_
                      refine lv_iload hx hb dX6_layFold_177 (lv_at hl 6 rfl) ?_
                      refine lv_iload_n hx hb dX6_layFold_179 rfl (lv_at hl 4 rfl) ?_
                      have hPc := hP.sub (ws' := []) [] rfl
                      have hDc := hD.sub (ws' := []) [] (by decide) rfl
                      have hFc := va_free (wc := []) hD hS hA [] rfl
                      refine va_calli (va_runS (As := [.int v6_8, .int v5_4, .int t_2]) (rest := []) ⟨hx, hb, hml, hown, hts⟩ (c_X6_field l dC dI cI cC cS _ v6_8 v5_4 t_2 hq) (va_cwS 3 hts gX6_layFold_X6_field rfl rfl rfl (by decide +kernel) ⟨Nat.le_of_ble_eq_true rfl, Nat.le_of_ble_eq_true rfl⟩) (gn_preS hPc hK hN hDc) rfl rfl hl.1 rfl (lv_room (Nat.le_of_ble_eq_true rfl)) dX6_layFold_180 ⟨Nat.zero_le _, Nat.zero_le _⟩) hS (fun q _ h => hFc q h) hFc (fun r_16 u t H1 locs ht hvm hq hB hz1 hk1 hS => ?_)
                      obtain ⟨hP1, hK1, hD1⟩ := hB
                      rw [ht] at hP1
                      try dsimp only at hq
                      obtain ⟨hP, hD⟩ := va_join (wr := [(aM, .inr (5, [.ref aZ, .ref aPast, .int pastMany, .ref aKz, .int isKept, .ref aBuf, .int typed, .ref aStk, .ref aLaid, .int wid, .int hei, .ref aPcs, .ref aTold, .int toldMany, .int spot, .int wrong])), (aStk, .inl (cI, 64, .inl stk)), (aLaid, .inl (cI, 64, .inl laid__9))]) (w1 := []) hP hD [] [0, 1, 2] rfl rfl (by decide) (by decide) hk1 hFc hP1 hD1
                      have hP := hP.sub (ws' := [(aM, .inr (5, [.ref aZ, .ref aPast, .int pastMany, .ref aKz, .int isKept, .ref aBuf, .int typed, .ref aStk, .ref aLaid, .int wid, .int hei, .ref aPcs, .ref aTold, .int toldMany, .int spot, .int wrong])), (aStk, .inl (cI, 64, .inl stk)), (aLaid, .inl (cI, 64, .inl laid__9))]) [0, 1, 2] rfl
                      have hD := hD.sub (ws' := [(aM, .inr (5, [.ref aZ, .ref aPast, .int pastMany, .ref aKz, .int isKept, .ref aBuf, .int typed, .ref aStk, .ref aLaid, .int wid, .int hei, .ref aPcs, .ref aTold, .int toldMany, .int spot, .int wrong])), (aStk, .inl (cI, 64, .inl stk)), (aLaid, .inl (cI, 64, .inl laid__9))]) [0, 1, 2] (by decide) rfl
                      generalize H1 = H at hP hS ⊢
                      refine lv_iconst (v := 2) hx hb dX6_layFold_183 (by decide) ?_
                      refine lv_imul hx hb dX6_layFold_184 ?_
                      refine lv_iload_n hx hb dX6_layFold_185 rfl (lv_at hl 3 rfl) ?_
                      refine lv_imul hx hb dX6_layFold_186 ?_
                      refine lv_topi (fun w9_17 ew9_17 => ?_)
                      have hq := hq w9_17 ew9_17
                      refine lv_istore (lv' := [(9, .int w9_17), (8, .int r_15), (0, .ref aM), (1, .int x1), (2, .int r_1), (3, .int t_2), (4, .int t_3), (5, .int v5_4), (6, .int v6_8), (7, .int r_12)]) hx hb dX6_layFold_187 hl (by decide) rfl (fun ls hl => ?_)
                      refine lv_iconst (v := 0) hx hb dX6_layFold_189 (by decide) ?_
                      refine lv_istore (lv' := [(10, .int (0 : Int32)), (9, .int w9_17), (8, .int r_15), (0, .ref aM), (1, .int x1), (2, .int r_1), (3, .int t_2), (4, .int t_3), (5, .int v5_4), (6, .int v6_8), (7, .int r_12)]) hx hb dX6_layFold_190 hl (by decide) rfl (fun ls hl => ?_)
                      have hq := hq (fun (v10_18 : Int32) (laid__19 : Nat → Int32) => ∀ (H : Heap) (locs : List Loc) (ls : Array Slot), va_P (dC, dI) vwCl [(aM, .inr (5, [.ref aZ, .ref aPast, .int pastMany, .ref aKz, .int isKept, .ref aBuf, .int typed, .ref aStk, .ref aLaid, .int wid, .int hei, .ref aPcs, .ref aTold, .int toldMany, .int spot, .int wrong])), (aStk, .inl (cI, 64, .inl stk)), (aLaid, .inl (cI, 64, .inl laid__19))] H → va_D A [(aM, .inr (5, [.ref aZ, .ref aPast, .int pastMany, .ref aKz, .int isKept, .ref aBuf, .int typed, .ref aStk, .ref aLaid, .int wid, .int hei, .ref aPcs, .ref aTold, .int toldMany, .int spot, .int wrong])), (aStk, .inl (cI, 64, .inl stk)), (aLaid, .inl (cI, 64, .inl laid__19))] → va_S A s.heap H locs → lv_has ls 11 [(0, .ref aM), (1, .int x1), (2, .int r_1), (3, .int t_2), (4, .int t_3), (5, .int v5_4), (6, .int v6_8), (7, .int r_12), (8, .int r_15), (9, .int w9_17), (10, .int v10_18)] → W p l e ({ frames := 1, cells := 0, slots := 0, locals := 22 } : Room) s m ([.ref aM, .int x1] : List Value).toArray below meth c H locs 0 0 Q (F0 m 192 ls [])) (by
                        intro v10_18 laid__19 hq H locs ls hP hD hS hl
                        refine lv_iload hx hb dX6_layFold_192 (lv_at hl 10 rfl) ?_
                        refine lv_iload_n hx hb dX6_layFold_194 rfl (lv_at hl 2 rfl) ?_
                        refine lv_icmp_ge (tgt := 257) hx hb dX6_layFold_195 (by decide) (fun hc => ?_) (fun hc => ?_)
                        · have hq := hq.1 hc
                          refine lv_iinc (v := (v6_8 + (1 : Int32))) (lv' := [(6, .int (v6_8 + (1 : Int32))), (0, .ref aM), (1, .int x1), (2, .int r_1), (3, .int t_2), (4, .int t_3), (5, .int v5_4), (7, .int r_12), (8, .int r_15), (9, .int w9_17), (10, .int v10_18)]) hx hb dX6_layFold_257 hl (k := 6) rfl rfl (by decide) rfl (fun ls hl => ?_)
                          refine lv_goto (tgt := 57) hx hb dX6_layFold_260 (by decide) ?_
                          exact hq _ _ _ hP hD hS (lv_sub hl [1, 2, 3, 4, 5, 6, 0] rfl)
                        · have hq := hq.2 hc
                          refine lv_aload_n hx hb dX6_layFold_198 rfl (lv_at hl 0 rfl) ?_
                          refine va_get (D := (dC, dI)) (ci := 5) (v := .ref aLaid) (C := RX6) (T := TX6) (N := 16) hx hb hts iwX6_layFold_X6 hown hK hP 0 rfl rfl 8 (by decide) (hts _ kwX6_layFold_26) (fun _ h9 => h9) rfl dX6_layFold_199 ?_
                          refine lv_iload hx hb dX6_layFold_202 (lv_at hl 9 rfl) ?_
                          refine lv_iload hx hb dX6_layFold_204 (lv_at hl 10 rfl) ?_
                          refine lv_iadd hx hb dX6_layFold_206 ?_
                          refine lv_aload_n hx hb dX6_layFold_207 rfl (lv_at hl 0 rfl) ?_
                          refine va_get (D := (dC, dI)) (ci := 5) (v := .ref aStk) (C := RX6) (T := TX6) (N := 16) hx hb hts iwX6_layFold_X6 hown hK hP 0 rfl rfl 7 (by decide) (hts _ kwX6_layFold_23) (fun _ h9 => h9) rfl dX6_layFold_208 ?_
                          refine lv_iload hx hb dX6_layFold_211 (lv_at hl 8 rfl) ?_
                          refine lv_iload_n hx hb dX6_layFold_213 rfl (lv_at hl 2 rfl) ?_
                          refine lv_imul hx hb dX6_layFold_214 ?_
                          refine lv_iload_n hx hb dX6_layFold_215 rfl (lv_at hl 2 rfl) ?_
                          refine lv_iadd hx hb dX6_layFold_216 ?_
                          refine lv_iconst (v := 1) hx hb dX6_layFold_217 (by decide) ?_
                          refine lv_isub hx hb dX6_layFold_218 ?_
                          refine lv_iload hx hb dX6_layFold_219 (lv_at hl 10 rfl) ?_
                          refine lv_isub hx hb dX6_layFold_221 ?_
                          have hin := hq.1
                          have hq := hq.2
                          refine va_iald hx hb hK hP 1 0 rfl rfl hin dX6_layFold_222 ?_
                          have hPc := hP.sub (ws' := []) [] rfl
                          have hDc := hD.sub (ws' := []) [] (by decide) rfl
                          have hFc := va_free (wc := []) hD hS hA [] rfl
                          refine va_calli (va_runS (As := [.int (stk (((((r_15 * r_1) + r_1) - (1 : Int32)) - v10_18)).toNatClampNeg)]) (rest := [.int (w9_17 + v10_18), .ref aLaid]) ⟨hx, hb, hml, hown, hts⟩ (c_X6_turned l dC dI cI cC cS _ (stk (((((r_15 * r_1) + r_1) - (1 : Int32)) - v10_18)).toNatClampNeg) hq) (va_cwS 1 hts gX6_layFold_X6_turned rfl rfl rfl (by decide +kernel) ⟨Nat.le_of_ble_eq_true rfl, Nat.le_of_ble_eq_true rfl⟩) (gn_preS hPc hK hN hDc) rfl rfl hl.1 rfl (lv_room (Nat.le_of_ble_eq_true rfl)) dX6_layFold_223 ⟨Nat.zero_le _, Nat.zero_le _⟩) hS (fun q _ h => hFc q h) hFc (fun r_20 u t H1 locs ht hvm hq hB hz1 hk1 hS => ?_)
                          obtain ⟨hP1, hK1, hD1⟩ := hB
                          rw [ht] at hP1
                          try dsimp only at hq
                          obtain ⟨hP, hD⟩ := va_join (wr := [(aM, .inr (5, [.ref aZ, .ref aPast, .int pastMany, .ref aKz, .int isKept, .ref aBuf, .int typed, .ref aStk, .ref aLaid, .int wid, .int hei, .ref aPcs, .ref aTold, .int toldMany, .int spot, .int wrong])), (aStk, .inl (cI, 64, .inl stk)), (aLaid, .inl (cI, 64, .inl laid__19))]) (w1 := []) hP hD [] [0, 1, 2] rfl rfl (by decide) (by decide) hk1 hFc hP1 hD1
                          have hP := hP.sub (ws' := [(aM, .inr (5, [.ref aZ, .ref aPast, .int pastMany, .ref aKz, .int isKept, .ref aBuf, .int typed, .ref aStk, .ref aLaid, .int wid, .int hei, .ref aPcs, .ref aTold, .int toldMany, .int spot, .int wrong])), (aStk, .inl (cI, 64, .inl stk)), (aLaid, .inl (cI, 64, .inl laid__19))]) [0, 1, 2] rfl
                          have hD := hD.sub (ws' := [(aM, .inr (5, [.ref aZ, .ref aPast, .int pastMany, .ref aKz, .int isKept, .ref aBuf, .int typed, .ref aStk, .ref aLaid, .int wid, .int hei, .ref aPcs, .ref aTold, .int toldMany, .int spot, .int wrong])), (aStk, .inl (cI, 64, .inl stk)), (aLaid, .inl (cI, 64, .inl laid__19))]) [0, 1, 2] (by decide) rfl
                          generalize H1 = H at hP hS ⊢
                          have hin := hq.1
                          have hq := hq.2
                          refine va_iast hx hb hK hP hD hS 2 0 rfl rfl hin dX6_layFold_226 (fun H locs hP hD hS => ?_)
                          have hP : va_P (dC, dI) vwCl [(aM, .inr (5, [.ref aZ, .ref aPast, .int pastMany, .ref aKz, .int isKept, .ref aBuf, .int typed, .ref aStk, .ref aLaid, .int wid, .int hei, .ref aPcs, .ref aTold, .int toldMany, .int spot, .int wrong])), (aStk, .inl (cI, 64, .inl stk)), (aLaid, .inl (cI, 64, .inl (upd laid__19 ((w9_17 + v10_18)).toNatClampNeg r_20)))] H := hP
                          have hD : va_D A [(aM, .inr (5, [.ref aZ, .ref aPast, .int pastMany, .ref aKz, .int isKept, .ref aBuf, .int typed, .ref aStk, .ref aLaid, .int wid, .int hei, .ref aPcs, .ref aTold, .int toldMany, .int spot, .int wrong])), (aStk, .inl (cI, 64, .inl stk)), (aLaid, .inl (cI, 64, .inl (upd laid__19 ((w9_17 + v10_18)).toNatClampNeg r_20)))] := hD
                          refine lv_aload_n hx hb dX6_layFold_227 rfl (lv_at hl 0 rfl) ?_
                          refine va_get (D := (dC, dI)) (ci := 5) (v := .ref aLaid) (C := RX6) (T := TX6) (N := 16) hx hb hts iwX6_layFold_X6 hown hK hP 0 rfl rfl 8 (by decide) (hts _ kwX6_layFold_26) (fun _ h9 => h9) rfl dX6_layFold_228 ?_
                          refine lv_iload hx hb dX6_layFold_231 (lv_at hl 9 rfl) ?_
                          refine lv_iload_n hx hb dX6_layFold_233 rfl (lv_at hl 2 rfl) ?_
                          refine lv_iadd hx hb dX6_layFold_234 ?_
                          refine lv_iload hx hb dX6_layFold_235 (lv_at hl 10 rfl) ?_
                          refine lv_iadd hx hb dX6_layFold_237 ?_
                          refine lv_aload_n hx hb dX6_layFold_238 rfl (lv_at hl 0 rfl) ?_
                          refine va_get (D := (dC, dI)) (ci := 5) (v := .ref aStk) (C := RX6) (T := TX6) (N := 16) hx hb hts iwX6_layFold_X6 hown hK hP 0 rfl rfl 7 (by decide) (hts _ kwX6_layFold_23) (fun _ h9 => h9) rfl dX6_layFold_239 ?_
                          refine lv_iload hx hb dX6_layFold_242 (lv_at hl 7 rfl) ?_
                          refine lv_iload_n hx hb dX6_layFold_244 rfl (lv_at hl 2 rfl) ?_
                          refine lv_imul hx hb dX6_layFold_245 ?_
                          refine lv_iload hx hb dX6_layFold_246 (lv_at hl 10 rfl) ?_
                          refine lv_iadd hx hb dX6_layFold_248 ?_
                          have hin := hq.1
                          have hq := hq.2
                          refine va_iald hx hb hK hP 1 0 rfl rfl hin dX6_layFold_249 ?_
                          have hin := hq.1
                          have hq := hq.2
                          refine va_iast hx hb hK hP hD hS 2 0 rfl rfl hin dX6_layFold_250 (fun H locs hP hD hS => ?_)
                          have hP : va_P (dC, dI) vwCl [(aM, .inr (5, [.ref aZ, .ref aPast, .int pastMany, .ref aKz, .int isKept, .ref aBuf, .int typed, .ref aStk, .ref aLaid, .int wid, .int hei, .ref aPcs, .ref aTold, .int toldMany, .int spot, .int wrong])), (aStk, .inl (cI, 64, .inl stk)), (aLaid, .inl (cI, 64, .inl (upd (upd laid__19 ((w9_17 + v10_18)).toNatClampNeg r_20) (((w9_17 + r_1) + v10_18)).toNatClampNeg (stk (((r_12 * r_1) + v10_18)).toNatClampNeg))))] H := hP
                          have hD : va_D A [(aM, .inr (5, [.ref aZ, .ref aPast, .int pastMany, .ref aKz, .int isKept, .ref aBuf, .int typed, .ref aStk, .ref aLaid, .int wid, .int hei, .ref aPcs, .ref aTold, .int toldMany, .int spot, .int wrong])), (aStk, .inl (cI, 64, .inl stk)), (aLaid, .inl (cI, 64, .inl (upd (upd laid__19 ((w9_17 + v10_18)).toNatClampNeg r_20) (((w9_17 + r_1) + v10_18)).toNatClampNeg (stk (((r_12 * r_1) + v10_18)).toNatClampNeg))))] := hD
                          refine lv_iinc (v := (v10_18 + (1 : Int32))) (lv' := [(10, .int (v10_18 + (1 : Int32))), (0, .ref aM), (1, .int x1), (2, .int r_1), (3, .int t_2), (4, .int t_3), (5, .int v5_4), (6, .int v6_8), (7, .int r_12), (8, .int r_15), (9, .int w9_17)]) hx hb dX6_layFold_251 hl (k := 10) rfl rfl (by decide) rfl (fun ls hl => ?_)
                          refine lv_goto (tgt := 192) hx hb dX6_layFold_254 (by decide) ?_
                          exact hq _ _ _ hP hD hS (lv_sub hl [1, 2, 3, 4, 5, 6, 7, 8, 9, 10, 0] rfl))
                      exact hq _ _ _ hP hD hS (lv_sub hl [3, 4, 5, 6, 7, 8, 9, 10, 2, 1, 0] rfl))
                    refine lv_icmp_ne (tgt := 147) hx hb dX6_layFold_134 (by decide) (fun hc => ?_) (fun hc => ?_)
                    · have hq := hq.1 hc
                      refine lv_iload_n hx hb dX6_layFold_147 rfl (lv_at hl 1 rfl) ?_
                      refine lv_iconst (v := 3) hx hb dX6_layFold_148 (by decide) ?_
                      refine lv_icmp_ne (tgt := 164) hx hb dX6_layFold_149 (by decide) (fun hc => ?_) (fun hc => ?_)
                      · have hq := hq.1 hc
                        refine lv_iload hx hb dX6_layFold_164 (lv_at hl 5 rfl) ?_
                        exact hq _ _ _ hP hD hS (lv_sub hl [0, 1, 2, 3, 4, 5, 6, 7] rfl)
                      · have hq := hq.2 hc
                        refine lv_aload_n hx hb dX6_layFold_152 rfl (lv_at hl 0 rfl) ?_
                        refine va_get (D := (dC, dI)) (ci := 5) (v := .int hei) (C := RX6) (T := TX6) (N := 16) hx hb hts iwX6_layFold_X6 hown hK hP 0 rfl rfl 10 (by decide) (hts _ kwX6_layFold_49) (fun _ h9 => h9) rfl dX6_layFold_153 ?_
                        refine lv_iconst (v := 1) hx hb dX6_layFold_156 (by decide) ?_
                        refine lv_isub hx hb dX6_layFold_157 ?_
                        refine lv_iload hx hb dX6_layFold_158 (lv_at hl 5 rfl) ?_
                        refine lv_isub hx hb dX6_layFold_160 ?_
                        refine lv_goto (tgt := 166) hx hb dX6_layFold_161 (by decide) ?_
                        exact hq _ _ _ hP hD hS (lv_sub hl [0, 1, 2, 3, 4, 5, 6, 7] rfl)
                    · have hq := hq.2 hc
                      refine lv_iload hx hb dX6_layFold_137 (lv_at hl 4 rfl) ?_
                      refine lv_iconst (v := 1) hx hb dX6_layFold_139 (by decide) ?_
                      refine lv_isub hx hb dX6_layFold_140 ?_
                      refine lv_iload hx hb dX6_layFold_141 (lv_at hl 5 rfl) ?_
                      refine lv_isub hx hb dX6_layFold_143 ?_
                      refine lv_goto (tgt := 166) hx hb dX6_layFold_144 (by decide) ?_
                      exact hq _ _ _ hP hD hS (lv_sub hl [0, 1, 2, 3, 4, 5, 6, 7] rfl))
                  refine lv_if_ne (tgt := 113) hx hb dX6_layFold_101 (by decide) (fun hc => ?_) (fun hc => ?_)
                  · have hq := hq.1 hc
                    refine lv_iload_n hx hb dX6_layFold_113 rfl (lv_at hl 2 rfl) ?_
                    refine lv_iconst (v := 1) hx hb dX6_layFold_114 (by decide) ?_
                    refine lv_icmp_ne (tgt := 130) hx hb dX6_layFold_115 (by decide) (fun hc => ?_) (fun hc => ?_)
                    · have hq := hq.1 hc
                      refine lv_iload hx hb dX6_layFold_130 (lv_at hl 7 rfl) ?_
                      exact hq _ _ _ hP hD hS (lv_sub hl [1, 2, 3, 4, 5, 6, 7, 0] rfl)
                    · have hq := hq.2 hc
                      refine lv_aload_n hx hb dX6_layFold_118 rfl (lv_at hl 1 rfl) ?_
                      refine va_get (D := (dC, dI)) (ci := 5) (v := .int wid) (C := RX6) (T := TX6) (N := 16) hx hb hts iwX6_layFold_X6 hown hK hP 0 rfl rfl 9 (by decide) (hts _ kwX6_layFold_46) (fun _ h9 => h9) rfl dX6_layFold_119 ?_
                      refine lv_iconst (v := 1) hx hb dX6_layFold_122 (by decide) ?_
                      refine lv_isub hx hb dX6_layFold_123 ?_
                      refine lv_iload hx hb dX6_layFold_124 (lv_at hl 7 rfl) ?_
                      refine lv_isub hx hb dX6_layFold_126 ?_
                      refine lv_goto (tgt := 132) hx hb dX6_layFold_127 (by decide) ?_
                      exact hq _ _ _ hP hD hS (lv_sub hl [1, 2, 3, 4, 5, 6, 7, 0] rfl)
                  · have hq := hq.2 hc
                    refine lv_iload_n hx hb dX6_layFold_104 rfl (lv_at hl 4 rfl) ?_
                    refine lv_iconst (v := 1) hx hb dX6_layFold_105 (by decide) ?_
                    refine lv_isub hx hb dX6_layFold_106 ?_
                    refine lv_iload hx hb dX6_layFold_107 (lv_at hl 7 rfl) ?_
                    refine lv_isub hx hb dX6_layFold_109 ?_
                    refine lv_goto (tgt := 132) hx hb dX6_layFold_110 (by decide) ?_
                    exact hq _ _ _ hP hD hS (lv_sub hl [1, 2, 3, 4, 5, 6, 7, 0] rfl))
                refine lv_icmp_ne (tgt := 89) hx hb dX6_layFold_78 (by decide) (fun hc => ?_) (fun hc => ?_)
                · have hq := hq.1 hc
                  refine lv_iload hx hb dX6_layFold_89 (lv_at hl 5 rfl) ?_
                  exact hq _ _ _ hP hD hS (lv_sub hl [0, 1, 2, 3, 4, 5, 6] rfl)
                · have hq := hq.2 hc
                  refine lv_iload hx hb dX6_layFold_81 (lv_at hl 5 rfl) ?_
                  refine lv_iload hx hb dX6_layFold_83 (lv_at hl 4 rfl) ?_
                  refine lv_iadd hx hb dX6_layFold_85 ?_
                  refine lv_goto (tgt := 91) hx hb dX6_layFold_86 (by decide) ?_
                  exact hq _ _ _ hP hD hS (lv_sub hl [0, 1, 2, 3, 4, 5, 6] rfl))
              refine lv_if_ne (tgt := 74) hx hb dX6_layFold_64 (by decide) (fun hc => ?_) (fun hc => ?_)
              · have hq := hq.1 hc
                refine lv_iload hx hb dX6_layFold_74 (lv_at hl 6 rfl) ?_
                exact hq _ _ _ hP hD hS (lv_sub hl [0, 1, 2, 3, 4, 5, 6] rfl)
              · have hq := hq.2 hc
                refine lv_iload hx hb dX6_layFold_67 (lv_at hl 6 rfl) ?_
                refine lv_iload_n hx hb dX6_layFold_69 rfl (lv_at hl 3 rfl) ?_
                refine lv_iadd hx hb dX6_layFold_70 ?_
                refine lv_goto (tgt := 76) hx hb dX6_layFold_71 (by decide) ?_
                exact hq _ _ _ hP hD hS (lv_sub hl [0, 1, 2, 3, 4, 5, 6] rfl))
          exact hq _ _ _ hP hD hS (lv_sub hl [1, 2, 3, 4, 5, 6, 0] rfl))
      exact hq _ _ _ hP hD hS (lv_sub hl [2, 3, 4, 5, 1, 0] rfl))
    refine lv_icmp_ge (tgt := 36) hx hb dX6_layFold_26 (by decide) (fun hc => ?_) (fun hc => ?_)
    · have hq := hq.1 hc
      refine lv_aload_n hx hb dX6_layFold_36 rfl (lv_at hl 1 rfl) ?_
      refine va_get (D := (dC, dI)) (ci := 5) (v := .int hei) (C := RX6) (T := TX6) (N := 16) hx hb hts iwX6_layFold_X6 hown hK hP 0 rfl rfl 10 (by decide) (hts _ kwX6_layFold_49) (fun _ h9 => h9) rfl dX6_layFold_37 ?_
      refine lv_iconst (v := 2) hx hb dX6_layFold_40 (by decide) ?_
      refine lv_idiv hx hb dX6_layFold_41 (by decide) ?_
      exact hq _ _ _ hP hD hS (lv_sub hl [1, 2, 3, 0] rfl)
    · have hq := hq.2 hc
      refine lv_aload_n hx hb dX6_layFold_29 rfl (lv_at hl 1 rfl) ?_
      refine va_get (D := (dC, dI)) (ci := 5) (v := .int hei) (C := RX6) (T := TX6) (N := 16) hx hb hts iwX6_layFold_X6 hown hK hP 0 rfl rfl 10 (by decide) (hts _ kwX6_layFold_49) (fun _ h9 => h9) rfl dX6_layFold_30 ?_
      refine lv_goto (tgt := 42) hx hb dX6_layFold_33 (by decide) ?_
      exact hq _ _ _ hP hD hS (lv_sub hl [1, 2, 3, 0] rfl))
  refine lv_icmp_ge (tgt := 19) hx hb dX6_layFold_7 (by decide) (fun hc => ?_) (fun hc => ?_)
  · have hq := hq.1 hc
    refine lv_aload_n hx hb dX6_layFold_19 rfl (lv_at hl 1 rfl) ?_
    refine va_get (D := (dC, dI)) (ci := 5) (v := .int wid) (C := RX6) (T := TX6) (N := 16) hx hb hts iwX6_layFold_X6 hown hK hP 0 rfl rfl 9 (by decide) (hts _ kwX6_layFold_46) (fun _ h9 => h9) rfl dX6_layFold_20 ?_
    exact hq _ _ _ hP hD hS (lv_sub hl [1, 2, 0] rfl)
  · have hq := hq.2 hc
    refine lv_aload_n hx hb dX6_layFold_10 rfl (lv_at hl 1 rfl) ?_
    refine va_get (D := (dC, dI)) (ci := 5) (v := .int wid) (C := RX6) (T := TX6) (N := 16) hx hb hts iwX6_layFold_X6 hown hK hP 0 rfl rfl 9 (by decide) (hts _ kwX6_layFold_46) (fun _ h9 => h9) rfl dX6_layFold_11 ?_
    refine lv_iconst (v := 2) hx hb dX6_layFold_14 (by decide) ?_
    refine lv_idiv hx hb dX6_layFold_15 (by decide) ?_
    refine lv_goto (tgt := 23) hx hb dX6_layFold_16 (by decide) ?_
    exact hq _ _ _ hP hD hS (lv_sub hl [1, 2, 0] rfl)
set_option maxRecDepth 20000 in
theorem kwX6_lay_46 : Cond.fieldLink RX6 46 "PunchedFoldsModel" "width" "I" ∈ wsX6_lay := by decide +kernel
set_option maxRecDepth 20000 in
theorem iwX6_lay_X6 : ∀ w ∈ wsX60, w ∈ wsX6_lay := by decide +kernel
set_option maxRecDepth 20000 in
theorem kwX6_lay_49 : Cond.fieldLink RX6 49 "PunchedFoldsModel" "height" "I" ∈ wsX6_lay := by decide +kernel
set_option maxRecDepth 20000 in
theorem kwX6_lay_7 : Cond.fieldLink RX6 7 "PunchedFoldsModel" "z" "[I" ∈ wsX6_lay := by decide +kernel
set_option maxRecDepth 20000 in
theorem kwX6_lay_23 : Cond.fieldLink RX6 23 "PunchedFoldsModel" "stacks" "[I" ∈ wsX6_lay := by decide +kernel
set_option maxHeartbeats 4000000 in
set_option maxRecDepth 100000 in
theorem c_X6_lay (l : Launch) (dC : Nat → ClassId) (dI : Nat → Nat → Nat) (cI cC cS : ClassId) (aM : Nat) (aZ : Nat) (aPast : Nat) (aKz : Nat) (aBuf : Nat) (aStk : Nat) (aLaid : Nat) (aPcs : Nat) (aTold : Nat) (sz : Nat) (pastMany : Int32) (isKept : Int32) (typed : Int32) (wid : Int32) (hei : Int32) (toldMany : Int32) (spot : Int32) (wrong : Int32) (zz : Nat → Int32) (stk : Nat → Int32) (laid : Nat → Int32) (x1 : Int32) {post : Int32 → Int32 → (Nat → Int32) → (Nat → Int32) → Prop} (hq : wp_X6_lay wid hei zz stk laid x1 post) : Met l yX6_lay wsX6_lay ({ frames := 2, cells := 0, slots := 0, locals := 52 } : Room) (gn_Pre (dC, dI) cI cC cS [.ref aM, .int x1] sz [(aM, .inr (5, [.ref aZ, .ref aPast, .int pastMany, .ref aKz, .int isKept, .ref aBuf, .int typed, .ref aStk, .ref aLaid, .int wid, .int hei, .ref aPcs, .ref aTold, .int toldMany, .int spot, .int wrong])), (aZ, .inl (cI, 207, .inl zz)), (aStk, .inl (cI, 64, .inl stk)), (aLaid, .inl (cI, 64, .inl laid))]) (va_Qv (fun (u : Int32 × Int32 × (Nat → Int32) × (Nat → Int32)) => post u.1 u.2.1 u.2.2.1 u.2.2.2) (fun (u : Int32 × Int32 × (Nat → Int32) × (Nat → Int32)) t => va_P (dC, dI) vwCl [(aM, .inr (5, [.ref aZ, .ref aPast, .int pastMany, .ref aKz, .int isKept, .ref aBuf, .int typed, .ref aStk, .ref aLaid, .int u.1, .int u.2.1, .ref aPcs, .ref aTold, .int toldMany, .int spot, .int wrong])), (aZ, .inl (cI, 207, .inl zz)), (aStk, .inl (cI, 64, .inl u.2.2.1)), (aLaid, .inl (cI, 64, .inl u.2.2.2))] t.heap ∧ va_K (dC, dI) vwCl (gn_tys cI cC cS) t ∧ va_D (va_A [(aM, .inr (5, [.ref aZ, .ref aPast, .int pastMany, .ref aKz, .int isKept, .ref aBuf, .int typed, .ref aStk, .ref aLaid, .int wid, .int hei, .ref aPcs, .ref aTold, .int toldMany, .int spot, .int wrong])), (aZ, .inl (cI, 207, .inl zz)), (aStk, .inl (cI, 64, .inl stk)), (aLaid, .inl (cI, 64, .inl laid))] sz) [(aM, .inr (5, [.ref aZ, .ref aPast, .int pastMany, .ref aKz, .int isKept, .ref aBuf, .int typed, .ref aStk, .ref aLaid, .int u.1, .int u.2.1, .ref aPcs, .ref aTold, .int toldMany, .int spot, .int wrong])), (aZ, .inl (cI, 207, .inl zz)), (aStk, .inl (cI, 64, .inl u.2.2.1)), (aLaid, .inl (cI, 64, .inl u.2.2.2))]) (va_A [(aM, .inr (5, [.ref aZ, .ref aPast, .int pastMany, .ref aKz, .int isKept, .ref aBuf, .int typed, .ref aStk, .ref aLaid, .int wid, .int hei, .ref aPcs, .ref aTold, .int toldMany, .int spot, .int wrong])), (aZ, .inl (cI, 207, .inl zz)), (aStk, .inl (cI, 64, .inl stk)), (aLaid, .inl (cI, 64, .inl laid))] sz)) 0 0 (va_A [(aM, .inr (5, [.ref aZ, .ref aPast, .int pastMany, .ref aKz, .int isKept, .ref aBuf, .int typed, .ref aStk, .ref aLaid, .int wid, .int hei, .ref aPcs, .ref aTold, .int toldMany, .int spot, .int wrong])), (aZ, .inl (cI, 207, .inl zz)), (aStk, .inl (cI, 64, .inl stk)), (aLaid, .inl (cI, 64, .inl laid))] sz) := by
  unfold wp_X6_lay at hq
  refine Met.ofW (cc := cX6_lay) (maxL := 3) (ret := none) (by decide) rfl ?_
  intro p e s m args below meth c s₁ B hml hv
  obtain ⟨rfl, hsz, hP, hK, hN, hD0⟩ := hv
  have hx := B.exec
  have hb := B.bytes
  have hr := B.returns
  have hts := atoms_spec (ws := wsX6_lay) B.pre
  have hown : s.vm.findClass RX6 = some m.cls := findClass_of_methodNamed B.named
  have hlocks := B.notSynchronized
  subst hsz
  have hD := hD0.self (sz := s.heap.size)
  generalize hAe : va_A [(aM, .inr (5, [.ref aZ, .ref aPast, .int pastMany, .ref aKz, .int isKept, .ref aBuf, .int typed, .ref aStk, .ref aLaid, .int wid, .int hei, .ref aPcs, .ref aTold, .int toldMany, .int spot, .int wrong])), (aZ, .inl (cI, 207, .inl zz)), (aStk, .inl (cI, 64, .inl stk)), (aLaid, .inl (cI, 64, .inl laid))] s.heap.size = A at hD ⊢
  have hA : ∀ q : Nat, s.heap.size ≤ q → A q := fun q h => by rw [← hAe]; exact Or.inr h
  have hS : va_S A s.heap s.heap [] := va_S.rf
  have hl := lv_entry ([.ref aM, .int x1] : List Value) (n := 3) (Nat.le_of_ble_eq_true rfl)
  rw [lg_entry_eq]
  generalize (lg_sl ([.ref aM, .int x1] : List Value) ++ List.replicate (3 - (lg_sl ([.ref aM, .int x1] : List Value)).length) Slot.unset).toArray = ls at hl ⊢
  have hl : lv_has ls 3 [(0, .ref aM), (1, .int x1)] := hl
  refine gn_Q (hret := fun Q => ∀ (pc : Nat) (ls : Array Slot) (H : Heap) (locs : List Loc) (m_wid : Int32) (m_hei : Int32) (m_stk : Nat → Int32) (m_laid : Nat → Int32), decode cX6_lay pc = .ok (.return_, 1) → va_P (dC, dI) vwCl [(aM, .inr (5, [.ref aZ, .ref aPast, .int pastMany, .ref aKz, .int isKept, .ref aBuf, .int typed, .ref aStk, .ref aLaid, .int m_wid, .int m_hei, .ref aPcs, .ref aTold, .int toldMany, .int spot, .int wrong])), (aZ, .inl (cI, 207, .inl zz)), (aStk, .inl (cI, 64, .inl m_stk)), (aLaid, .inl (cI, 64, .inl m_laid))] H → va_D A [(aM, .inr (5, [.ref aZ, .ref aPast, .int pastMany, .ref aKz, .int isKept, .ref aBuf, .int typed, .ref aStk, .ref aLaid, .int m_wid, .int m_hei, .ref aPcs, .ref aTold, .int toldMany, .int spot, .int wrong])), (aZ, .inl (cI, 207, .inl zz)), (aStk, .inl (cI, 64, .inl m_stk)), (aLaid, .inl (cI, 64, .inl m_laid))] → va_S A s.heap H locs → post m_wid m_hei m_stk m_laid → W p l e ({ frames := 2, cells := 0, slots := 0, locals := 52 } : Room) s m ([.ref aM, .int x1] : List Value).toArray below meth c H locs 0 0 Q (F0 m pc ls [])) (fun Q hret => ?_) ?_
  rotate_left
  · intro pc ls H locs m_wid m_hei m_stk m_laid hdg hP hD hS hpost
    exact W.vret hx hb hr (fun t ht hW => ⟨⟨(m_wid, m_hei, m_stk, m_laid), rfl, hpost, by rw [ht]; exact hP, va_K.moved hW.alike hK, hD⟩, hS.F ht⟩) hS.2.2 hdg
  refine lv_aload_n hx hb dX6_lay_0 rfl (lv_at hl 0 rfl) ?_
  refine lv_bipush (v := 8) hx hb dX6_lay_1 (by decide) ?_
  refine va_put (D := (dC, dI)) (ci := 5) (v := .int (8 : Int32)) (ty := .int) (C := RX6) (T := TX6) (N := 16) hx hb hts iwX6_lay_X6 tyX6 tyX6_ok nmX6 hown hK hP hD hS 0 rfl rfl 9 (by decide) (hts _ kwX6_lay_46) (fun _ h9 => h9) rfl (by decide +kernel) rfl rfl (Nat.le_of_ble_eq_true rfl) dX6_lay_3 (fun H locs hP hD hS => ?_)
  have hP : va_P (dC, dI) vwCl [(aM, .inr (5, [.ref aZ, .ref aPast, .int pastMany, .ref aKz, .int isKept, .ref aBuf, .int typed, .ref aStk, .ref aLaid, .int (8 : Int32), .int hei, .ref aPcs, .ref aTold, .int toldMany, .int spot, .int wrong])), (aZ, .inl (cI, 207, .inl zz)), (aStk, .inl (cI, 64, .inl stk)), (aLaid, .inl (cI, 64, .inl laid))] H := hP
  have hD : va_D A [(aM, .inr (5, [.ref aZ, .ref aPast, .int pastMany, .ref aKz, .int isKept, .ref aBuf, .int typed, .ref aStk, .ref aLaid, .int (8 : Int32), .int hei, .ref aPcs, .ref aTold, .int toldMany, .int spot, .int wrong])), (aZ, .inl (cI, 207, .inl zz)), (aStk, .inl (cI, 64, .inl stk)), (aLaid, .inl (cI, 64, .inl laid))] := hD
  refine lv_aload_n hx hb dX6_lay_6 rfl (lv_at hl 0 rfl) ?_
  refine lv_bipush (v := 8) hx hb dX6_lay_7 (by decide) ?_
  refine va_put (D := (dC, dI)) (ci := 5) (v := .int (8 : Int32)) (ty := .int) (C := RX6) (T := TX6) (N := 16) hx hb hts iwX6_lay_X6 tyX6 tyX6_ok nmX6 hown hK hP hD hS 0 rfl rfl 10 (by decide) (hts _ kwX6_lay_49) (fun _ h9 => h9) rfl (by decide +kernel) rfl rfl (Nat.le_of_ble_eq_true rfl) dX6_lay_9 (fun H locs hP hD hS => ?_)
  have hP : va_P (dC, dI) vwCl [(aM, .inr (5, [.ref aZ, .ref aPast, .int pastMany, .ref aKz, .int isKept, .ref aBuf, .int typed, .ref aStk, .ref aLaid, .int (8 : Int32), .int (8 : Int32), .ref aPcs, .ref aTold, .int toldMany, .int spot, .int wrong])), (aZ, .inl (cI, 207, .inl zz)), (aStk, .inl (cI, 64, .inl stk)), (aLaid, .inl (cI, 64, .inl laid))] H := hP
  have hD : va_D A [(aM, .inr (5, [.ref aZ, .ref aPast, .int pastMany, .ref aKz, .int isKept, .ref aBuf, .int typed, .ref aStk, .ref aLaid, .int (8 : Int32), .int (8 : Int32), .ref aPcs, .ref aTold, .int toldMany, .int spot, .int wrong])), (aZ, .inl (cI, 207, .inl zz)), (aStk, .inl (cI, 64, .inl stk)), (aLaid, .inl (cI, 64, .inl laid))] := hD
  refine lv_iconst (v := 0) hx hb dX6_lay_12 (by decide) ?_
  refine lv_istore_n (lv' := [(2, .int (0 : Int32)), (0, .ref aM), (1, .int x1)]) hx hb dX6_lay_13 rfl hl (by decide) rfl (fun ls hl => ?_)
  have hq := hq (fun (v2_1 : Int32) (stk__2 : Nat → Int32) => ∀ (H : Heap) (locs : List Loc) (ls : Array Slot), va_P (dC, dI) vwCl [(aM, .inr (5, [.ref aZ, .ref aPast, .int pastMany, .ref aKz, .int isKept, .ref aBuf, .int typed, .ref aStk, .ref aLaid, .int (8 : Int32), .int (8 : Int32), .ref aPcs, .ref aTold, .int toldMany, .int spot, .int wrong])), (aZ, .inl (cI, 207, .inl zz)), (aStk, .inl (cI, 64, .inl stk__2)), (aLaid, .inl (cI, 64, .inl laid))] H → va_D A [(aM, .inr (5, [.ref aZ, .ref aPast, .int pastMany, .ref aKz, .int isKept, .ref aBuf, .int typed, .ref aStk, .ref aLaid, .int (8 : Int32), .int (8 : Int32), .ref aPcs, .ref aTold, .int toldMany, .int spot, .int wrong])), (aZ, .inl (cI, 207, .inl zz)), (aStk, .inl (cI, 64, .inl stk__2)), (aLaid, .inl (cI, 64, .inl laid))] → va_S A s.heap H locs → lv_has ls 3 [(0, .ref aM), (1, .int x1), (2, .int v2_1)] → W p l e ({ frames := 2, cells := 0, slots := 0, locals := 52 } : Room) s m ([.ref aM, .int x1] : List Value).toArray below meth c H locs 0 0 Q (F0 m 14 ls [])) (by
    intro v2_1 stk__2 hq H locs ls hP hD hS hl
    refine lv_iload_n hx hb dX6_lay_14 rfl (lv_at hl 2 rfl) ?_
    refine lv_bipush (v := 64) hx hb dX6_lay_15 (by decide) ?_
    refine lv_icmp_ge (tgt := 35) hx hb dX6_lay_17 (by decide) (fun hc => ?_) (fun hc => ?_)
    · have hq := hq.1 hc
      refine lv_iconst (v := 0) hx hb dX6_lay_35 (by decide) ?_
      refine lv_istore_n (lv' := [(2, .int (0 : Int32)), (0, .ref aM), (1, .int x1)]) hx hb dX6_lay_36 rfl hl (by decide) rfl (fun ls hl => ?_)
      have hq := hq (fun (v2_3 : Int32) (wid__4 : Int32) (hei__5 : Int32) (stk__6 : Nat → Int32) (laid__7 : Nat → Int32) => ∀ (H : Heap) (locs : List Loc) (ls : Array Slot), va_P (dC, dI) vwCl [(aM, .inr (5, [.ref aZ, .ref aPast, .int pastMany, .ref aKz, .int isKept, .ref aBuf, .int typed, .ref aStk, .ref aLaid, .int wid__4, .int hei__5, .ref aPcs, .ref aTold, .int toldMany, .int spot, .int wrong])), (aZ, .inl (cI, 207, .inl zz)), (aStk, .inl (cI, 64, .inl stk__6)), (aLaid, .inl (cI, 64, .inl laid__7))] H → va_D A [(aM, .inr (5, [.ref aZ, .ref aPast, .int pastMany, .ref aKz, .int isKept, .ref aBuf, .int typed, .ref aStk, .ref aLaid, .int wid__4, .int hei__5, .ref aPcs, .ref aTold, .int toldMany, .int spot, .int wrong])), (aZ, .inl (cI, 207, .inl zz)), (aStk, .inl (cI, 64, .inl stk__6)), (aLaid, .inl (cI, 64, .inl laid__7))] → va_S A s.heap H locs → lv_has ls 3 [(0, .ref aM), (1, .int x1), (2, .int v2_3)] → W p l e ({ frames := 2, cells := 0, slots := 0, locals := 52 } : Room) s m ([.ref aM, .int x1] : List Value).toArray below meth c H locs 0 0 Q (F0 m 37 ls [])) (by
        intro v2_3 wid__4 hei__5 stk__6 laid__7 hq H locs ls hP hD hS hl
        refine lv_iload_n hx hb dX6_lay_37 rfl (lv_at hl 2 rfl) ?_
        refine lv_iload_n hx hb dX6_lay_38 rfl (lv_at hl 1 rfl) ?_
        refine lv_icmp_ge (tgt := 60) hx hb dX6_lay_39 (by decide) (fun hc => ?_) (fun hc => ?_)
        · have hq := hq.1 hc
          exact hret _ _ _ _ _ _ _ _ dX6_lay_60 hP hD hS hq
        · have hq := hq.2 hc
          refine lv_aload_n hx hb dX6_lay_42 rfl (lv_at hl 0 rfl) ?_
          refine lv_aload_n hx hb dX6_lay_43 rfl (lv_at hl 0 rfl) ?_
          refine va_get (D := (dC, dI)) (ci := 5) (v := .ref aZ) (C := RX6) (T := TX6) (N := 16) hx hb hts iwX6_lay_X6 hown hK hP 0 rfl rfl 0 (by decide) (hts _ kwX6_lay_7) (fun _ h9 => h9) rfl dX6_lay_44 ?_
          refine lv_iconst (v := 1) hx hb dX6_lay_47 (by decide) ?_
          refine lv_iload_n hx hb dX6_lay_48 rfl (lv_at hl 2 rfl) ?_
          refine lv_iadd hx hb dX6_lay_49 ?_
          have hin := hq.1
          have hq := hq.2
          refine va_iald hx hb hK hP 1 0 rfl rfl hin dX6_lay_50 ?_
          have hPc := hP.sub (ws' := [(aM, .inr (5, [.ref aZ, .ref aPast, .int pastMany, .ref aKz, .int isKept, .ref aBuf, .int typed, .ref aStk, .ref aLaid, .int wid__4, .int hei__5, .ref aPcs, .ref aTold, .int toldMany, .int spot, .int wrong])), (aStk, .inl (cI, 64, .inl stk__6)), (aLaid, .inl (cI, 64, .inl laid__7))]) [0, 2, 3] rfl
          have hDc := hD.sub (ws' := [(aM, .inr (5, [.ref aZ, .ref aPast, .int pastMany, .ref aKz, .int isKept, .ref aBuf, .int typed, .ref aStk, .ref aLaid, .int wid__4, .int hei__5, .ref aPcs, .ref aTold, .int toldMany, .int spot, .int wrong])), (aStk, .inl (cI, 64, .inl stk__6)), (aLaid, .inl (cI, 64, .inl laid__7))]) [0, 2, 3] (by decide) rfl
          have hFc := va_free (wc := [(aM, .inr (5, [.ref aZ, .ref aPast, .int pastMany, .ref aKz, .int isKept, .ref aBuf, .int typed, .ref aStk, .ref aLaid, .int wid__4, .int hei__5, .ref aPcs, .ref aTold, .int toldMany, .int spot, .int wrong])), (aStk, .inl (cI, 64, .inl stk__6)), (aLaid, .inl (cI, 64, .inl laid__7))]) hD hS hA [0, 2, 3] rfl
          refine va_callv (va_runV (As := [.int (zz (((1 : Int32) + v2_3)).toNatClampNeg)]) (rest := []) ⟨hx, hb, hml, hown, hts⟩ (c_X6_layFold l dC dI cI cC cS aM aZ aPast aKz aBuf aStk aLaid aPcs aTold _ pastMany isKept typed wid__4 hei__5 toldMany spot wrong stk__6 laid__7 (zz (((1 : Int32) + v2_3)).toNatClampNeg) hq) (cwV 1 hts gX6_lay_X6_layFold rfl rfl rfl (by decide +kernel) ⟨Nat.le_of_ble_eq_true rfl, Nat.le_of_ble_eq_true rfl⟩) (gn_preV hPc hK hN hDc (ci := 5) (q0 := 0) rfl rfl) rfl rfl hl.1 rfl (lv_room (Nat.le_of_ble_eq_true rfl)) dX6_lay_51 ⟨Nat.zero_le _, Nat.zero_le _⟩) hS (fun q _ h => hFc q h) hFc (fun u t H1 locs ht hvm hq hB hz1 hk1 hS => ?_)
          obtain ⟨wid__8, hei__9, stk__10, laid__11⟩ := u
          obtain ⟨hP1, hK1, hD1⟩ := hB
          rw [ht] at hP1
          try dsimp only at hq
          obtain ⟨hP, hD⟩ := va_join (wr := [(aZ, .inl (cI, 207, .inl zz))]) (w1 := [(aM, .inr (5, [.ref aZ, .ref aPast, .int pastMany, .ref aKz, .int isKept, .ref aBuf, .int typed, .ref aStk, .ref aLaid, .int wid__8, .int hei__9, .ref aPcs, .ref aTold, .int toldMany, .int spot, .int wrong])), (aStk, .inl (cI, 64, .inl stk__10)), (aLaid, .inl (cI, 64, .inl laid__11))]) hP hD [0, 2, 3] [1] rfl rfl (by decide) (by decide) hk1 hFc hP1 hD1
          have hP := hP.sub (ws' := [(aM, .inr (5, [.ref aZ, .ref aPast, .int pastMany, .ref aKz, .int isKept, .ref aBuf, .int typed, .ref aStk, .ref aLaid, .int wid__8, .int hei__9, .ref aPcs, .ref aTold, .int toldMany, .int spot, .int wrong])), (aZ, .inl (cI, 207, .inl zz)), (aStk, .inl (cI, 64, .inl stk__10)), (aLaid, .inl (cI, 64, .inl laid__11))]) [1, 0, 2, 3] rfl
          have hD := hD.sub (ws' := [(aM, .inr (5, [.ref aZ, .ref aPast, .int pastMany, .ref aKz, .int isKept, .ref aBuf, .int typed, .ref aStk, .ref aLaid, .int wid__8, .int hei__9, .ref aPcs, .ref aTold, .int toldMany, .int spot, .int wrong])), (aZ, .inl (cI, 207, .inl zz)), (aStk, .inl (cI, 64, .inl stk__10)), (aLaid, .inl (cI, 64, .inl laid__11))]) [1, 0, 2, 3] (by decide) rfl
          generalize H1 = H at hP hS ⊢
          refine lv_iinc (v := (v2_3 + (1 : Int32))) (lv' := [(2, .int (v2_3 + (1 : Int32))), (0, .ref aM), (1, .int x1)]) hx hb dX6_lay_54 hl (k := 2) rfl rfl (by decide) rfl (fun ls hl => ?_)
          refine lv_goto (tgt := 37) hx hb dX6_lay_57 (by decide) ?_
          exact hq _ _ _ hP hD hS (lv_sub hl [1, 2, 0] rfl))
      exact hq _ _ _ hP hD hS (lv_sub hl [1, 2, 0] rfl)
    · have hq := hq.2 hc
      refine lv_aload_n hx hb dX6_lay_20 rfl (lv_at hl 0 rfl) ?_
      refine va_get (D := (dC, dI)) (ci := 5) (v := .ref aStk) (C := RX6) (T := TX6) (N := 16) hx hb hts iwX6_lay_X6 hown hK hP 0 rfl rfl 7 (by decide) (hts _ kwX6_lay_23) (fun _ h9 => h9) rfl dX6_lay_21 ?_
      refine lv_iload_n hx hb dX6_lay_24 rfl (lv_at hl 2 rfl) ?_
      refine lv_iconst (v := 2) hx hb dX6_lay_25 (by decide) ?_
      refine lv_iload_n hx hb dX6_lay_26 rfl (lv_at hl 2 rfl) ?_
      refine lv_imul hx hb dX6_lay_27 ?_
      have hin := hq.1
      have hq := hq.2
      refine va_iast hx hb hK hP hD hS 2 0 rfl rfl hin dX6_lay_28 (fun H locs hP hD hS => ?_)
      have hP : va_P (dC, dI) vwCl [(aM, .inr (5, [.ref aZ, .ref aPast, .int pastMany, .ref aKz, .int isKept, .ref aBuf, .int typed, .ref aStk, .ref aLaid, .int (8 : Int32), .int (8 : Int32), .ref aPcs, .ref aTold, .int toldMany, .int spot, .int wrong])), (aZ, .inl (cI, 207, .inl zz)), (aStk, .inl (cI, 64, .inl (upd stk__2 (v2_1).toNatClampNeg ((2 : Int32) * v2_1)))), (aLaid, .inl (cI, 64, .inl laid))] H := hP
      have hD : va_D A [(aM, .inr (5, [.ref aZ, .ref aPast, .int pastMany, .ref aKz, .int isKept, .ref aBuf, .int typed, .ref aStk, .ref aLaid, .int (8 : Int32), .int (8 : Int32), .ref aPcs, .ref aTold, .int toldMany, .int spot, .int wrong])), (aZ, .inl (cI, 207, .inl zz)), (aStk, .inl (cI, 64, .inl (upd stk__2 (v2_1).toNatClampNeg ((2 : Int32) * v2_1)))), (aLaid, .inl (cI, 64, .inl laid))] := hD
      refine lv_iinc (v := (v2_1 + (1 : Int32))) (lv' := [(2, .int (v2_1 + (1 : Int32))), (0, .ref aM), (1, .int x1)]) hx hb dX6_lay_29 hl (k := 2) rfl rfl (by decide) rfl (fun ls hl => ?_)
      refine lv_goto (tgt := 14) hx hb dX6_lay_32 (by decide) ?_
      exact hq _ _ _ hP hD hS (lv_sub hl [1, 2, 0] rfl))
  exact hq _ _ _ hP hD hS (lv_sub hl [1, 2, 0] rfl)
set_option maxRecDepth 20000 in
theorem kwX6_layNow_7 : Cond.fieldLink RX6 7 "PunchedFoldsModel" "z" "[I" ∈ wsX6_layNow := by decide +kernel
set_option maxRecDepth 20000 in
theorem iwX6_layNow_X6 : ∀ w ∈ wsX60, w ∈ wsX6_layNow := by decide +kernel
set_option maxHeartbeats 4000000 in
set_option maxRecDepth 100000 in
theorem c_X6_layNow (l : Launch) (dC : Nat → ClassId) (dI : Nat → Nat → Nat) (cI cC cS : ClassId) (aM : Nat) (aZ : Nat) (aPast : Nat) (aKz : Nat) (aBuf : Nat) (aStk : Nat) (aLaid : Nat) (aPcs : Nat) (aTold : Nat) (sz : Nat) (pastMany : Int32) (isKept : Int32) (typed : Int32) (wid : Int32) (hei : Int32) (toldMany : Int32) (spot : Int32) (wrong : Int32) (zz : Nat → Int32) (stk : Nat → Int32) (laid : Nat → Int32) {post : Int32 → Int32 → (Nat → Int32) → (Nat → Int32) → Prop} (hq : wp_X6_layNow wid hei zz stk laid post) : Met l yX6_layNow wsX6_layNow ({ frames := 3, cells := 0, slots := 0, locals := 74 } : Room) (gn_Pre (dC, dI) cI cC cS [.ref aM] sz [(aM, .inr (5, [.ref aZ, .ref aPast, .int pastMany, .ref aKz, .int isKept, .ref aBuf, .int typed, .ref aStk, .ref aLaid, .int wid, .int hei, .ref aPcs, .ref aTold, .int toldMany, .int spot, .int wrong])), (aZ, .inl (cI, 207, .inl zz)), (aStk, .inl (cI, 64, .inl stk)), (aLaid, .inl (cI, 64, .inl laid))]) (va_Qv (fun (u : Int32 × Int32 × (Nat → Int32) × (Nat → Int32)) => post u.1 u.2.1 u.2.2.1 u.2.2.2) (fun (u : Int32 × Int32 × (Nat → Int32) × (Nat → Int32)) t => va_P (dC, dI) vwCl [(aM, .inr (5, [.ref aZ, .ref aPast, .int pastMany, .ref aKz, .int isKept, .ref aBuf, .int typed, .ref aStk, .ref aLaid, .int u.1, .int u.2.1, .ref aPcs, .ref aTold, .int toldMany, .int spot, .int wrong])), (aZ, .inl (cI, 207, .inl zz)), (aStk, .inl (cI, 64, .inl u.2.2.1)), (aLaid, .inl (cI, 64, .inl u.2.2.2))] t.heap ∧ va_K (dC, dI) vwCl (gn_tys cI cC cS) t ∧ va_D (va_A [(aM, .inr (5, [.ref aZ, .ref aPast, .int pastMany, .ref aKz, .int isKept, .ref aBuf, .int typed, .ref aStk, .ref aLaid, .int wid, .int hei, .ref aPcs, .ref aTold, .int toldMany, .int spot, .int wrong])), (aZ, .inl (cI, 207, .inl zz)), (aStk, .inl (cI, 64, .inl stk)), (aLaid, .inl (cI, 64, .inl laid))] sz) [(aM, .inr (5, [.ref aZ, .ref aPast, .int pastMany, .ref aKz, .int isKept, .ref aBuf, .int typed, .ref aStk, .ref aLaid, .int u.1, .int u.2.1, .ref aPcs, .ref aTold, .int toldMany, .int spot, .int wrong])), (aZ, .inl (cI, 207, .inl zz)), (aStk, .inl (cI, 64, .inl u.2.2.1)), (aLaid, .inl (cI, 64, .inl u.2.2.2))]) (va_A [(aM, .inr (5, [.ref aZ, .ref aPast, .int pastMany, .ref aKz, .int isKept, .ref aBuf, .int typed, .ref aStk, .ref aLaid, .int wid, .int hei, .ref aPcs, .ref aTold, .int toldMany, .int spot, .int wrong])), (aZ, .inl (cI, 207, .inl zz)), (aStk, .inl (cI, 64, .inl stk)), (aLaid, .inl (cI, 64, .inl laid))] sz)) 0 0 (va_A [(aM, .inr (5, [.ref aZ, .ref aPast, .int pastMany, .ref aKz, .int isKept, .ref aBuf, .int typed, .ref aStk, .ref aLaid, .int wid, .int hei, .ref aPcs, .ref aTold, .int toldMany, .int spot, .int wrong])), (aZ, .inl (cI, 207, .inl zz)), (aStk, .inl (cI, 64, .inl stk)), (aLaid, .inl (cI, 64, .inl laid))] sz) := by
  unfold wp_X6_layNow at hq
  refine Met.ofW (cc := cX6_layNow) (maxL := 1) (ret := none) (by decide) rfl ?_
  intro p e s m args below meth c s₁ B hml hv
  obtain ⟨rfl, hsz, hP, hK, hN, hD0⟩ := hv
  have hx := B.exec
  have hb := B.bytes
  have hr := B.returns
  have hts := atoms_spec (ws := wsX6_layNow) B.pre
  have hown : s.vm.findClass RX6 = some m.cls := findClass_of_methodNamed B.named
  have hlocks := B.notSynchronized
  subst hsz
  have hD := hD0.self (sz := s.heap.size)
  generalize hAe : va_A [(aM, .inr (5, [.ref aZ, .ref aPast, .int pastMany, .ref aKz, .int isKept, .ref aBuf, .int typed, .ref aStk, .ref aLaid, .int wid, .int hei, .ref aPcs, .ref aTold, .int toldMany, .int spot, .int wrong])), (aZ, .inl (cI, 207, .inl zz)), (aStk, .inl (cI, 64, .inl stk)), (aLaid, .inl (cI, 64, .inl laid))] s.heap.size = A at hD ⊢
  have hA : ∀ q : Nat, s.heap.size ≤ q → A q := fun q h => by rw [← hAe]; exact Or.inr h
  have hS : va_S A s.heap s.heap [] := va_S.rf
  have hl := lv_entry ([.ref aM] : List Value) (n := 1) (Nat.le_of_ble_eq_true rfl)
  rw [lg_entry_eq]
  generalize (lg_sl ([.ref aM] : List Value) ++ List.replicate (1 - (lg_sl ([.ref aM] : List Value)).length) Slot.unset).toArray = ls at hl ⊢
  have hl : lv_has ls 1 [(0, .ref aM)] := hl
  refine gn_Q (hret := fun Q => ∀ (pc : Nat) (ls : Array Slot) (H : Heap) (locs : List Loc) (m_wid : Int32) (m_hei : Int32) (m_stk : Nat → Int32) (m_laid : Nat → Int32), decode cX6_layNow pc = .ok (.return_, 1) → va_P (dC, dI) vwCl [(aM, .inr (5, [.ref aZ, .ref aPast, .int pastMany, .ref aKz, .int isKept, .ref aBuf, .int typed, .ref aStk, .ref aLaid, .int m_wid, .int m_hei, .ref aPcs, .ref aTold, .int toldMany, .int spot, .int wrong])), (aZ, .inl (cI, 207, .inl zz)), (aStk, .inl (cI, 64, .inl m_stk)), (aLaid, .inl (cI, 64, .inl m_laid))] H → va_D A [(aM, .inr (5, [.ref aZ, .ref aPast, .int pastMany, .ref aKz, .int isKept, .ref aBuf, .int typed, .ref aStk, .ref aLaid, .int m_wid, .int m_hei, .ref aPcs, .ref aTold, .int toldMany, .int spot, .int wrong])), (aZ, .inl (cI, 207, .inl zz)), (aStk, .inl (cI, 64, .inl m_stk)), (aLaid, .inl (cI, 64, .inl m_laid))] → va_S A s.heap H locs → post m_wid m_hei m_stk m_laid → W p l e ({ frames := 3, cells := 0, slots := 0, locals := 74 } : Room) s m ([.ref aM] : List Value).toArray below meth c H locs 0 0 Q (F0 m pc ls [])) (fun Q hret => ?_) ?_
  rotate_left
  · intro pc ls H locs m_wid m_hei m_stk m_laid hdg hP hD hS hpost
    exact W.vret hx hb hr (fun t ht hW => ⟨⟨(m_wid, m_hei, m_stk, m_laid), rfl, hpost, by rw [ht]; exact hP, va_K.moved hW.alike hK, hD⟩, hS.F ht⟩) hS.2.2 hdg
  refine lv_aload_n hx hb dX6_layNow_0 rfl (lv_at hl 0 rfl) ?_
  refine lv_aload_n hx hb dX6_layNow_1 rfl (lv_at hl 0 rfl) ?_
  refine va_get (D := (dC, dI)) (ci := 5) (v := .ref aZ) (C := RX6) (T := TX6) (N := 16) hx hb hts iwX6_layNow_X6 hown hK hP 0 rfl rfl 0 (by decide) (hts _ kwX6_layNow_7) (fun _ h9 => h9) rfl dX6_layNow_2 ?_
  refine lv_iconst (v := 0) hx hb dX6_layNow_5 (by decide) ?_
  have hin := hq.1
  have hq := hq.2
  refine va_iald hx hb hK hP 1 0 rfl rfl hin dX6_layNow_6 ?_
  have hPc := hP.sub (ws' := [(aM, .inr (5, [.ref aZ, .ref aPast, .int pastMany, .ref aKz, .int isKept, .ref aBuf, .int typed, .ref aStk, .ref aLaid, .int wid, .int hei, .ref aPcs, .ref aTold, .int toldMany, .int spot, .int wrong])), (aZ, .inl (cI, 207, .inl zz)), (aStk, .inl (cI, 64, .inl stk)), (aLaid, .inl (cI, 64, .inl laid))]) [0, 1, 2, 3] rfl
  have hDc := hD.sub (ws' := [(aM, .inr (5, [.ref aZ, .ref aPast, .int pastMany, .ref aKz, .int isKept, .ref aBuf, .int typed, .ref aStk, .ref aLaid, .int wid, .int hei, .ref aPcs, .ref aTold, .int toldMany, .int spot, .int wrong])), (aZ, .inl (cI, 207, .inl zz)), (aStk, .inl (cI, 64, .inl stk)), (aLaid, .inl (cI, 64, .inl laid))]) [0, 1, 2, 3] (by decide) rfl
  have hFc := va_free (wc := [(aM, .inr (5, [.ref aZ, .ref aPast, .int pastMany, .ref aKz, .int isKept, .ref aBuf, .int typed, .ref aStk, .ref aLaid, .int wid, .int hei, .ref aPcs, .ref aTold, .int toldMany, .int spot, .int wrong])), (aZ, .inl (cI, 207, .inl zz)), (aStk, .inl (cI, 64, .inl stk)), (aLaid, .inl (cI, 64, .inl laid))]) hD hS hA [0, 1, 2, 3] rfl
  refine va_callv (va_runV (As := [.int (zz ((0 : Int32)).toNatClampNeg)]) (rest := []) ⟨hx, hb, hml, hown, hts⟩ (c_X6_lay l dC dI cI cC cS aM aZ aPast aKz aBuf aStk aLaid aPcs aTold _ pastMany isKept typed wid hei toldMany spot wrong zz stk laid (zz ((0 : Int32)).toNatClampNeg) hq) (cwV 1 hts gX6_layNow_X6_lay rfl rfl rfl (by decide +kernel) ⟨Nat.le_of_ble_eq_true rfl, Nat.le_of_ble_eq_true rfl⟩) (gn_preV hPc hK hN hDc (ci := 5) (q0 := 0) rfl rfl) rfl rfl hl.1 rfl (lv_room (Nat.le_of_ble_eq_true rfl)) dX6_layNow_7 ⟨Nat.zero_le _, Nat.zero_le _⟩) hS (fun q _ h => hFc q h) hFc (fun u t H1 locs ht hvm hq hB hz1 hk1 hS => ?_)
  obtain ⟨wid__1, hei__2, stk__3, laid__4⟩ := u
  obtain ⟨hP1, hK1, hD1⟩ := hB
  rw [ht] at hP1
  try dsimp only at hq
  obtain ⟨hP, hD⟩ := va_join (wr := []) (w1 := [(aM, .inr (5, [.ref aZ, .ref aPast, .int pastMany, .ref aKz, .int isKept, .ref aBuf, .int typed, .ref aStk, .ref aLaid, .int wid__1, .int hei__2, .ref aPcs, .ref aTold, .int toldMany, .int spot, .int wrong])), (aZ, .inl (cI, 207, .inl zz)), (aStk, .inl (cI, 64, .inl stk__3)), (aLaid, .inl (cI, 64, .inl laid__4))]) hP hD [0, 1, 2, 3] [] rfl rfl (by decide) (by decide) hk1 hFc hP1 hD1
  have hP := hP.sub (ws' := [(aM, .inr (5, [.ref aZ, .ref aPast, .int pastMany, .ref aKz, .int isKept, .ref aBuf, .int typed, .ref aStk, .ref aLaid, .int wid__1, .int hei__2, .ref aPcs, .ref aTold, .int toldMany, .int spot, .int wrong])), (aZ, .inl (cI, 207, .inl zz)), (aStk, .inl (cI, 64, .inl stk__3)), (aLaid, .inl (cI, 64, .inl laid__4))]) [0, 1, 2, 3] rfl
  have hD := hD.sub (ws' := [(aM, .inr (5, [.ref aZ, .ref aPast, .int pastMany, .ref aKz, .int isKept, .ref aBuf, .int typed, .ref aStk, .ref aLaid, .int wid__1, .int hei__2, .ref aPcs, .ref aTold, .int toldMany, .int spot, .int wrong])), (aZ, .inl (cI, 207, .inl zz)), (aStk, .inl (cI, 64, .inl stk__3)), (aLaid, .inl (cI, 64, .inl laid__4))]) [0, 1, 2, 3] (by decide) rfl
  generalize H1 = H at hP hS ⊢
  exact hret _ _ _ _ _ _ _ _ dX6_layNow_10 hP hD hS hq
set_option maxRecDepth 20000 in
theorem kwX6_top_46 : Cond.fieldLink RX6 46 "PunchedFoldsModel" "width" "I" ∈ wsX6_top := by decide +kernel
set_option maxRecDepth 20000 in
theorem iwX6_top_X6 : ∀ w ∈ wsX60, w ∈ wsX6_top := by decide +kernel
set_option maxRecDepth 20000 in
theorem kwX6_top_49 : Cond.fieldLink RX6 49 "PunchedFoldsModel" "height" "I" ∈ wsX6_top := by decide +kernel
set_option maxHeartbeats 4000000 in
set_option maxRecDepth 100000 in
theorem c_X6_top (l : Launch) (dC : Nat → ClassId) (dI : Nat → Nat → Nat) (cI cC cS : ClassId) (aM : Nat) (aZ : Nat) (aPast : Nat) (aKz : Nat) (aBuf : Nat) (aStk : Nat) (aLaid : Nat) (aPcs : Nat) (aTold : Nat) (sz : Nat) (pastMany : Int32) (isKept : Int32) (typed : Int32) (wid : Int32) (hei : Int32) (toldMany : Int32) (spot : Int32) (wrong : Int32) (zz : Nat → Int32) (stk : Nat → Int32) (laid : Nat → Int32) (x1 : Int32) (x2 : Int32) {post : Int32 → Int32 → Int32 → (Nat → Int32) → (Nat → Int32) → Prop} (hq : wp_X6_top wid hei zz stk laid x1 x2 post) : Met l yX6_top wsX6_top ({ frames := 4, cells := 0, slots := 0, locals := 94 } : Room) (gn_Pre (dC, dI) cI cC cS [.ref aM, .int x1, .int x2] sz [(aM, .inr (5, [.ref aZ, .ref aPast, .int pastMany, .ref aKz, .int isKept, .ref aBuf, .int typed, .ref aStk, .ref aLaid, .int wid, .int hei, .ref aPcs, .ref aTold, .int toldMany, .int spot, .int wrong])), (aZ, .inl (cI, 207, .inl zz)), (aStk, .inl (cI, 64, .inl stk)), (aLaid, .inl (cI, 64, .inl laid))]) (va_Qi (fun (r : Int32) (u : Int32 × Int32 × (Nat → Int32) × (Nat → Int32)) => post r u.1 u.2.1 u.2.2.1 u.2.2.2) (fun (u : Int32 × Int32 × (Nat → Int32) × (Nat → Int32)) t => va_P (dC, dI) vwCl [(aM, .inr (5, [.ref aZ, .ref aPast, .int pastMany, .ref aKz, .int isKept, .ref aBuf, .int typed, .ref aStk, .ref aLaid, .int u.1, .int u.2.1, .ref aPcs, .ref aTold, .int toldMany, .int spot, .int wrong])), (aZ, .inl (cI, 207, .inl zz)), (aStk, .inl (cI, 64, .inl u.2.2.1)), (aLaid, .inl (cI, 64, .inl u.2.2.2))] t.heap ∧ va_K (dC, dI) vwCl (gn_tys cI cC cS) t ∧ va_D (va_A [(aM, .inr (5, [.ref aZ, .ref aPast, .int pastMany, .ref aKz, .int isKept, .ref aBuf, .int typed, .ref aStk, .ref aLaid, .int wid, .int hei, .ref aPcs, .ref aTold, .int toldMany, .int spot, .int wrong])), (aZ, .inl (cI, 207, .inl zz)), (aStk, .inl (cI, 64, .inl stk)), (aLaid, .inl (cI, 64, .inl laid))] sz) [(aM, .inr (5, [.ref aZ, .ref aPast, .int pastMany, .ref aKz, .int isKept, .ref aBuf, .int typed, .ref aStk, .ref aLaid, .int u.1, .int u.2.1, .ref aPcs, .ref aTold, .int toldMany, .int spot, .int wrong])), (aZ, .inl (cI, 207, .inl zz)), (aStk, .inl (cI, 64, .inl u.2.2.1)), (aLaid, .inl (cI, 64, .inl u.2.2.2))]) (va_A [(aM, .inr (5, [.ref aZ, .ref aPast, .int pastMany, .ref aKz, .int isKept, .ref aBuf, .int typed, .ref aStk, .ref aLaid, .int wid, .int hei, .ref aPcs, .ref aTold, .int toldMany, .int spot, .int wrong])), (aZ, .inl (cI, 207, .inl zz)), (aStk, .inl (cI, 64, .inl stk)), (aLaid, .inl (cI, 64, .inl laid))] sz)) 0 0 (va_A [(aM, .inr (5, [.ref aZ, .ref aPast, .int pastMany, .ref aKz, .int isKept, .ref aBuf, .int typed, .ref aStk, .ref aLaid, .int wid, .int hei, .ref aPcs, .ref aTold, .int toldMany, .int spot, .int wrong])), (aZ, .inl (cI, 207, .inl zz)), (aStk, .inl (cI, 64, .inl stk)), (aLaid, .inl (cI, 64, .inl laid))] sz) := by
  unfold wp_X6_top at hq
  refine Met.ofW (cc := cX6_top) (maxL := 3) (ret := (some .int)) (by decide) rfl ?_
  intro p e s m args below meth c s₁ B hml hv
  obtain ⟨rfl, hsz, hP, hK, hN, hD0⟩ := hv
  have hx := B.exec
  have hb := B.bytes
  have hr := B.returns
  have hts := atoms_spec (ws := wsX6_top) B.pre
  have hown : s.vm.findClass RX6 = some m.cls := findClass_of_methodNamed B.named
  have hlocks := B.notSynchronized
  subst hsz
  have hD := hD0.self (sz := s.heap.size)
  generalize hAe : va_A [(aM, .inr (5, [.ref aZ, .ref aPast, .int pastMany, .ref aKz, .int isKept, .ref aBuf, .int typed, .ref aStk, .ref aLaid, .int wid, .int hei, .ref aPcs, .ref aTold, .int toldMany, .int spot, .int wrong])), (aZ, .inl (cI, 207, .inl zz)), (aStk, .inl (cI, 64, .inl stk)), (aLaid, .inl (cI, 64, .inl laid))] s.heap.size = A at hD ⊢
  have hA : ∀ q : Nat, s.heap.size ≤ q → A q := fun q h => by rw [← hAe]; exact Or.inr h
  have hS : va_S A s.heap s.heap [] := va_S.rf
  have hl := lv_entry ([.ref aM, .int x1, .int x2] : List Value) (n := 3) (Nat.le_of_ble_eq_true rfl)
  rw [lg_entry_eq]
  generalize (lg_sl ([.ref aM, .int x1, .int x2] : List Value) ++ List.replicate (3 - (lg_sl ([.ref aM, .int x1, .int x2] : List Value)).length) Slot.unset).toArray = ls at hl ⊢
  have hl : lv_has ls 3 [(0, .ref aM), (1, .int x1), (2, .int x2)] := hl
  refine gn_Q (hret := fun Q => ∀ (pc : Nat) (ls : Array Slot) (H : Heap) (locs : List Loc) (r : Int32) (m_wid : Int32) (m_hei : Int32) (m_stk : Nat → Int32) (m_laid : Nat → Int32), decode cX6_top pc = .ok (.ireturn, 1) → va_P (dC, dI) vwCl [(aM, .inr (5, [.ref aZ, .ref aPast, .int pastMany, .ref aKz, .int isKept, .ref aBuf, .int typed, .ref aStk, .ref aLaid, .int m_wid, .int m_hei, .ref aPcs, .ref aTold, .int toldMany, .int spot, .int wrong])), (aZ, .inl (cI, 207, .inl zz)), (aStk, .inl (cI, 64, .inl m_stk)), (aLaid, .inl (cI, 64, .inl m_laid))] H → va_D A [(aM, .inr (5, [.ref aZ, .ref aPast, .int pastMany, .ref aKz, .int isKept, .ref aBuf, .int typed, .ref aStk, .ref aLaid, .int m_wid, .int m_hei, .ref aPcs, .ref aTold, .int toldMany, .int spot, .int wrong])), (aZ, .inl (cI, 207, .inl zz)), (aStk, .inl (cI, 64, .inl m_stk)), (aLaid, .inl (cI, 64, .inl m_laid))] → va_S A s.heap H locs → post r m_wid m_hei m_stk m_laid → W p l e ({ frames := 4, cells := 0, slots := 0, locals := 94 } : Room) s m ([.ref aM, .int x1, .int x2] : List Value).toArray below meth c H locs 0 0 Q (F0 m pc ls [.int r])) (fun Q hret => ?_) ?_
  rotate_left
  · intro pc ls H locs r m_wid m_hei m_stk m_laid hdg hP hD hS hpost
    exact W.iret (v := r) hx hb hr (fun t ht hW => ⟨⟨r, (m_wid, m_hei, m_stk, m_laid), rfl, hpost, by rw [ht]; exact hP, va_K.moved hW.alike hK, hD⟩, hS.F ht⟩) hS.2.2 hdg
  refine lv_aload_n hx hb dX6_top_0 rfl (lv_at hl 0 rfl) ?_
  have hPc := hP.sub (ws' := [(aM, .inr (5, [.ref aZ, .ref aPast, .int pastMany, .ref aKz, .int isKept, .ref aBuf, .int typed, .ref aStk, .ref aLaid, .int wid, .int hei, .ref aPcs, .ref aTold, .int toldMany, .int spot, .int wrong])), (aZ, .inl (cI, 207, .inl zz)), (aStk, .inl (cI, 64, .inl stk)), (aLaid, .inl (cI, 64, .inl laid))]) [0, 1, 2, 3] rfl
  have hDc := hD.sub (ws' := [(aM, .inr (5, [.ref aZ, .ref aPast, .int pastMany, .ref aKz, .int isKept, .ref aBuf, .int typed, .ref aStk, .ref aLaid, .int wid, .int hei, .ref aPcs, .ref aTold, .int toldMany, .int spot, .int wrong])), (aZ, .inl (cI, 207, .inl zz)), (aStk, .inl (cI, 64, .inl stk)), (aLaid, .inl (cI, 64, .inl laid))]) [0, 1, 2, 3] (by decide) rfl
  have hFc := va_free (wc := [(aM, .inr (5, [.ref aZ, .ref aPast, .int pastMany, .ref aKz, .int isKept, .ref aBuf, .int typed, .ref aStk, .ref aLaid, .int wid, .int hei, .ref aPcs, .ref aTold, .int toldMany, .int spot, .int wrong])), (aZ, .inl (cI, 207, .inl zz)), (aStk, .inl (cI, 64, .inl stk)), (aLaid, .inl (cI, 64, .inl laid))]) hD hS hA [0, 1, 2, 3] rfl
  refine va_callv (va_runV (As := []) (rest := []) ⟨hx, hb, hml, hown, hts⟩ (c_X6_layNow l dC dI cI cC cS aM aZ aPast aKz aBuf aStk aLaid aPcs aTold _ pastMany isKept typed wid hei toldMany spot wrong zz stk laid hq) (cwV 0 hts gX6_top_X6_layNow rfl rfl rfl (by decide +kernel) ⟨Nat.le_of_ble_eq_true rfl, Nat.le_of_ble_eq_true rfl⟩) (gn_preV hPc hK hN hDc (ci := 5) (q0 := 0) rfl rfl) rfl rfl hl.1 rfl (lv_room (Nat.le_of_ble_eq_true rfl)) dX6_top_1 ⟨Nat.zero_le _, Nat.zero_le _⟩) hS (fun q _ h => hFc q h) hFc (fun u t H1 locs ht hvm hq hB hz1 hk1 hS => ?_)
  obtain ⟨wid__1, hei__2, stk__3, laid__4⟩ := u
  obtain ⟨hP1, hK1, hD1⟩ := hB
  rw [ht] at hP1
  try dsimp only at hq
  obtain ⟨hP, hD⟩ := va_join (wr := []) (w1 := [(aM, .inr (5, [.ref aZ, .ref aPast, .int pastMany, .ref aKz, .int isKept, .ref aBuf, .int typed, .ref aStk, .ref aLaid, .int wid__1, .int hei__2, .ref aPcs, .ref aTold, .int toldMany, .int spot, .int wrong])), (aZ, .inl (cI, 207, .inl zz)), (aStk, .inl (cI, 64, .inl stk__3)), (aLaid, .inl (cI, 64, .inl laid__4))]) hP hD [0, 1, 2, 3] [] rfl rfl (by decide) (by decide) hk1 hFc hP1 hD1
  have hP := hP.sub (ws' := [(aM, .inr (5, [.ref aZ, .ref aPast, .int pastMany, .ref aKz, .int isKept, .ref aBuf, .int typed, .ref aStk, .ref aLaid, .int wid__1, .int hei__2, .ref aPcs, .ref aTold, .int toldMany, .int spot, .int wrong])), (aZ, .inl (cI, 207, .inl zz)), (aStk, .inl (cI, 64, .inl stk__3)), (aLaid, .inl (cI, 64, .inl laid__4))]) [0, 1, 2, 3] rfl
  have hD := hD.sub (ws' := [(aM, .inr (5, [.ref aZ, .ref aPast, .int pastMany, .ref aKz, .int isKept, .ref aBuf, .int typed, .ref aStk, .ref aLaid, .int wid__1, .int hei__2, .ref aPcs, .ref aTold, .int toldMany, .int spot, .int wrong])), (aZ, .inl (cI, 207, .inl zz)), (aStk, .inl (cI, 64, .inl stk__3)), (aLaid, .inl (cI, 64, .inl laid__4))]) [0, 1, 2, 3] (by decide) rfl
  generalize H1 = H at hP hS ⊢
  refine lv_iload_n hx hb dX6_top_4 rfl (lv_at hl 1 rfl) ?_
  refine lv_iconst (v := 0) hx hb dX6_top_5 (by decide) ?_
  refine lv_aload_n hx hb dX6_top_6 rfl (lv_at hl 0 rfl) ?_
  refine va_get (D := (dC, dI)) (ci := 5) (v := .int wid__1) (C := RX6) (T := TX6) (N := 16) hx hb hts iwX6_top_X6 hown hK hP 0 rfl rfl 9 (by decide) (hts _ kwX6_top_46) (fun _ h9 => h9) rfl dX6_top_7 ?_
  refine lv_iconst (v := 1) hx hb dX6_top_10 (by decide) ?_
  refine lv_isub hx hb dX6_top_11 ?_
  have hPc := hP.sub (ws' := []) [] rfl
  have hDc := hD.sub (ws' := []) [] (by decide) rfl
  have hFc := va_free (wc := []) hD hS hA [] rfl
  refine va_calli (va_runS (As := [.int x1, .int (0 : Int32), .int (wid__1 - (1 : Int32))]) (rest := []) ⟨hx, hb, hml, hown, hts⟩ (c_X6_in l dC dI cI cC cS _ x1 (0 : Int32) (wid__1 - (1 : Int32)) hq) (va_cwS 3 hts gX6_top_X6_in rfl rfl rfl (by decide +kernel) ⟨Nat.le_of_ble_eq_true rfl, Nat.le_of_ble_eq_true rfl⟩) (gn_preS hPc hK hN hDc) rfl rfl hl.1 rfl (lv_room (Nat.le_of_ble_eq_true rfl)) dX6_top_12 ⟨Nat.zero_le _, Nat.zero_le _⟩) hS (fun q _ h => hFc q h) hFc (fun r_5 u t H1 locs ht hvm hq hB hz1 hk1 hS => ?_)
  obtain ⟨hP1, hK1, hD1⟩ := hB
  rw [ht] at hP1
  try dsimp only at hq
  obtain ⟨hP, hD⟩ := va_join (wr := [(aM, .inr (5, [.ref aZ, .ref aPast, .int pastMany, .ref aKz, .int isKept, .ref aBuf, .int typed, .ref aStk, .ref aLaid, .int wid__1, .int hei__2, .ref aPcs, .ref aTold, .int toldMany, .int spot, .int wrong])), (aZ, .inl (cI, 207, .inl zz)), (aStk, .inl (cI, 64, .inl stk__3)), (aLaid, .inl (cI, 64, .inl laid__4))]) (w1 := []) hP hD [] [0, 1, 2, 3] rfl rfl (by decide) (by decide) hk1 hFc hP1 hD1
  have hP := hP.sub (ws' := [(aM, .inr (5, [.ref aZ, .ref aPast, .int pastMany, .ref aKz, .int isKept, .ref aBuf, .int typed, .ref aStk, .ref aLaid, .int wid__1, .int hei__2, .ref aPcs, .ref aTold, .int toldMany, .int spot, .int wrong])), (aZ, .inl (cI, 207, .inl zz)), (aStk, .inl (cI, 64, .inl stk__3)), (aLaid, .inl (cI, 64, .inl laid__4))]) [0, 1, 2, 3] rfl
  have hD := hD.sub (ws' := [(aM, .inr (5, [.ref aZ, .ref aPast, .int pastMany, .ref aKz, .int isKept, .ref aBuf, .int typed, .ref aStk, .ref aLaid, .int wid__1, .int hei__2, .ref aPcs, .ref aTold, .int toldMany, .int spot, .int wrong])), (aZ, .inl (cI, 207, .inl zz)), (aStk, .inl (cI, 64, .inl stk__3)), (aLaid, .inl (cI, 64, .inl laid__4))]) [0, 1, 2, 3] (by decide) rfl
  generalize H1 = H at hP hS ⊢
  have hq := hq (∀ (H : Heap) (locs : List Loc) (ls : Array Slot), va_P (dC, dI) vwCl [(aM, .inr (5, [.ref aZ, .ref aPast, .int pastMany, .ref aKz, .int isKept, .ref aBuf, .int typed, .ref aStk, .ref aLaid, .int wid__1, .int hei__2, .ref aPcs, .ref aTold, .int toldMany, .int spot, .int wrong])), (aZ, .inl (cI, 207, .inl zz)), (aStk, .inl (cI, 64, .inl stk__3)), (aLaid, .inl (cI, 64, .inl laid__4))] H → va_D A [(aM, .inr (5, [.ref aZ, .ref aPast, .int pastMany, .ref aKz, .int isKept, .ref aBuf, .int typed, .ref aStk, .ref aLaid, .int wid__1, .int hei__2, .ref aPcs, .ref aTold, .int toldMany, .int spot, .int wrong])), (aZ, .inl (cI, 207, .inl zz)), (aStk, .inl (cI, 64, .inl stk__3)), (aLaid, .inl (cI, 64, .inl laid__4))] → va_S A s.heap H locs → lv_has ls 3 [] → W p l e ({ frames := 4, cells := 0, slots := 0, locals := 94 } : Room) s m ([.ref aM, .int x1, .int x2] : List Value).toArray below meth c H locs 0 0 Q (F0 m 49 ls [])) (by
    intro  hq H locs ls hP hD hS hl
    refine lv_bipush (v := -6) hx hb dX6_top_49 (by decide) ?_
    exact hret _ _ _ _ _ _ _ _ _ dX6_top_51 hP hD hS hq)
  refine lv_if_eq (tgt := 49) hx hb dX6_top_15 (by decide) (fun hc => ?_) (fun hc => ?_)
  · have hq := hq.1 hc
    exact hq _ _ _ hP hD hS (lv_sub hl [] rfl)
  · have hq := hq.2 hc
    refine lv_iload_n hx hb dX6_top_18 rfl (lv_at hl 2 rfl) ?_
    refine lv_iconst (v := 0) hx hb dX6_top_19 (by decide) ?_
    refine lv_aload_n hx hb dX6_top_20 rfl (lv_at hl 0 rfl) ?_
    refine va_get (D := (dC, dI)) (ci := 5) (v := .int hei__2) (C := RX6) (T := TX6) (N := 16) hx hb hts iwX6_top_X6 hown hK hP 0 rfl rfl 10 (by decide) (hts _ kwX6_top_49) (fun _ h9 => h9) rfl dX6_top_21 ?_
    refine lv_iconst (v := 1) hx hb dX6_top_24 (by decide) ?_
    refine lv_isub hx hb dX6_top_25 ?_
    have hPc := hP.sub (ws' := []) [] rfl
    have hDc := hD.sub (ws' := []) [] (by decide) rfl
    have hFc := va_free (wc := []) hD hS hA [] rfl
    refine va_calli (va_runS (As := [.int x2, .int (0 : Int32), .int (hei__2 - (1 : Int32))]) (rest := []) ⟨hx, hb, hml, hown, hts⟩ (c_X6_in l dC dI cI cC cS _ x2 (0 : Int32) (hei__2 - (1 : Int32)) hq) (va_cwS 3 hts gX6_top_X6_in rfl rfl rfl (by decide +kernel) ⟨Nat.le_of_ble_eq_true rfl, Nat.le_of_ble_eq_true rfl⟩) (gn_preS hPc hK hN hDc) rfl rfl hl.1 rfl (lv_room (Nat.le_of_ble_eq_true rfl)) dX6_top_26 ⟨Nat.zero_le _, Nat.zero_le _⟩) hS (fun q _ h => hFc q h) hFc (fun r_6 u t H1 locs ht hvm hq hB hz1 hk1 hS => ?_)
    obtain ⟨hP1, hK1, hD1⟩ := hB
    rw [ht] at hP1
    try dsimp only at hq
    obtain ⟨hP, hD⟩ := va_join (wr := [(aM, .inr (5, [.ref aZ, .ref aPast, .int pastMany, .ref aKz, .int isKept, .ref aBuf, .int typed, .ref aStk, .ref aLaid, .int wid__1, .int hei__2, .ref aPcs, .ref aTold, .int toldMany, .int spot, .int wrong])), (aZ, .inl (cI, 207, .inl zz)), (aStk, .inl (cI, 64, .inl stk__3)), (aLaid, .inl (cI, 64, .inl laid__4))]) (w1 := []) hP hD [] [0, 1, 2, 3] rfl rfl (by decide) (by decide) hk1 hFc hP1 hD1
    have hP := hP.sub (ws' := [(aM, .inr (5, [.ref aZ, .ref aPast, .int pastMany, .ref aKz, .int isKept, .ref aBuf, .int typed, .ref aStk, .ref aLaid, .int wid__1, .int hei__2, .ref aPcs, .ref aTold, .int toldMany, .int spot, .int wrong])), (aZ, .inl (cI, 207, .inl zz)), (aStk, .inl (cI, 64, .inl stk__3)), (aLaid, .inl (cI, 64, .inl laid__4))]) [0, 1, 2, 3] rfl
    have hD := hD.sub (ws' := [(aM, .inr (5, [.ref aZ, .ref aPast, .int pastMany, .ref aKz, .int isKept, .ref aBuf, .int typed, .ref aStk, .ref aLaid, .int wid__1, .int hei__2, .ref aPcs, .ref aTold, .int toldMany, .int spot, .int wrong])), (aZ, .inl (cI, 207, .inl zz)), (aStk, .inl (cI, 64, .inl stk__3)), (aLaid, .inl (cI, 64, .inl laid__4))]) [0, 1, 2, 3] (by decide) rfl
    generalize H1 = H at hP hS ⊢
    refine lv_if_eq (tgt := 49) hx hb dX6_top_29 (by decide) (fun hc => ?_) (fun hc => ?_)
    · have hq := hq.1 hc
      exact hq _ _ _ hP hD hS (lv_sub hl [] rfl)
    · have hq := hq.2 hc
      refine lv_iload_n hx hb dX6_top_32 rfl (lv_at hl 1 rfl) ?_
      refine lv_iload_n hx hb dX6_top_33 rfl (lv_at hl 2 rfl) ?_
      refine lv_aload_n hx hb dX6_top_34 rfl (lv_at hl 0 rfl) ?_
      refine va_get (D := (dC, dI)) (ci := 5) (v := .int wid__1) (C := RX6) (T := TX6) (N := 16) hx hb hts iwX6_top_X6 hown hK hP 0 rfl rfl 9 (by decide) (hts _ kwX6_top_46) (fun _ h9 => h9) rfl dX6_top_35 ?_
      have hPc := hP.sub (ws' := []) [] rfl
      have hDc := hD.sub (ws' := []) [] (by decide) rfl
      have hFc := va_free (wc := []) hD hS hA [] rfl
      refine va_calli (va_runS (As := [.int x1, .int x2, .int wid__1]) (rest := []) ⟨hx, hb, hml, hown, hts⟩ (c_X6_field l dC dI cI cC cS _ x1 x2 wid__1 hq) (va_cwS 3 hts gX6_top_X6_field rfl rfl rfl (by decide +kernel) ⟨Nat.le_of_ble_eq_true rfl, Nat.le_of_ble_eq_true rfl⟩) (gn_preS hPc hK hN hDc) rfl rfl hl.1 rfl (lv_room (Nat.le_of_ble_eq_true rfl)) dX6_top_38 ⟨Nat.zero_le _, Nat.zero_le _⟩) hS (fun q _ h => hFc q h) hFc (fun r_7 u t H1 locs ht hvm hq hB hz1 hk1 hS => ?_)
      obtain ⟨hP1, hK1, hD1⟩ := hB
      rw [ht] at hP1
      try dsimp only at hq
      obtain ⟨hP, hD⟩ := va_join (wr := [(aM, .inr (5, [.ref aZ, .ref aPast, .int pastMany, .ref aKz, .int isKept, .ref aBuf, .int typed, .ref aStk, .ref aLaid, .int wid__1, .int hei__2, .ref aPcs, .ref aTold, .int toldMany, .int spot, .int wrong])), (aZ, .inl (cI, 207, .inl zz)), (aStk, .inl (cI, 64, .inl stk__3)), (aLaid, .inl (cI, 64, .inl laid__4))]) (w1 := []) hP hD [] [0, 1, 2, 3] rfl rfl (by decide) (by decide) hk1 hFc hP1 hD1
      have hP := hP.sub (ws' := [(aM, .inr (5, [.ref aZ, .ref aPast, .int pastMany, .ref aKz, .int isKept, .ref aBuf, .int typed, .ref aStk, .ref aLaid, .int wid__1, .int hei__2, .ref aPcs, .ref aTold, .int toldMany, .int spot, .int wrong])), (aZ, .inl (cI, 207, .inl zz)), (aStk, .inl (cI, 64, .inl stk__3)), (aLaid, .inl (cI, 64, .inl laid__4))]) [0, 1, 2, 3] rfl
      have hD := hD.sub (ws' := [(aM, .inr (5, [.ref aZ, .ref aPast, .int pastMany, .ref aKz, .int isKept, .ref aBuf, .int typed, .ref aStk, .ref aLaid, .int wid__1, .int hei__2, .ref aPcs, .ref aTold, .int toldMany, .int spot, .int wrong])), (aZ, .inl (cI, 207, .inl zz)), (aStk, .inl (cI, 64, .inl stk__3)), (aLaid, .inl (cI, 64, .inl laid__4))]) [0, 1, 2, 3] (by decide) rfl
      generalize H1 = H at hP hS ⊢
      refine lv_aload_n hx hb dX6_top_41 rfl (lv_at hl 0 rfl) ?_
      have hPc := hP.sub (ws' := [(aM, .inr (5, [.ref aZ, .ref aPast, .int pastMany, .ref aKz, .int isKept, .ref aBuf, .int typed, .ref aStk, .ref aLaid, .int wid__1, .int hei__2, .ref aPcs, .ref aTold, .int toldMany, .int spot, .int wrong]))]) [0] rfl
      have hDc := hD.sub (ws' := [(aM, .inr (5, [.ref aZ, .ref aPast, .int pastMany, .ref aKz, .int isKept, .ref aBuf, .int typed, .ref aStk, .ref aLaid, .int wid__1, .int hei__2, .ref aPcs, .ref aTold, .int toldMany, .int spot, .int wrong]))]) [0] (by decide) rfl
      have hFc := va_free (wc := [(aM, .inr (5, [.ref aZ, .ref aPast, .int pastMany, .ref aKz, .int isKept, .ref aBuf, .int typed, .ref aStk, .ref aLaid, .int wid__1, .int hei__2, .ref aPcs, .ref aTold, .int toldMany, .int spot, .int wrong]))]) hD hS hA [0] rfl
      refine va_calli (va_runV (As := []) (rest := [.int r_7]) ⟨hx, hb, hml, hown, hts⟩ (c_X6_layers l dC dI cI cC cS aM aZ aPast aKz aBuf aStk aLaid aPcs aTold _ pastMany isKept typed wid__1 hei__2 toldMany spot wrong hq) (cwV 0 hts gX6_top_X6_layers rfl rfl rfl (by decide +kernel) ⟨Nat.le_of_ble_eq_true rfl, Nat.le_of_ble_eq_true rfl⟩) (gn_preV hPc hK hN hDc (ci := 5) (q0 := 0) rfl rfl) rfl rfl hl.1 rfl (lv_room (Nat.le_of_ble_eq_true rfl)) dX6_top_42 ⟨Nat.zero_le _, Nat.zero_le _⟩) hS (fun q _ h => hFc q h) hFc (fun r_8 u t H1 locs ht hvm hq hB hz1 hk1 hS => ?_)
      obtain ⟨hP1, hK1, hD1⟩ := hB
      rw [ht] at hP1
      try dsimp only at hq
      obtain ⟨hP, hD⟩ := va_join (wr := [(aZ, .inl (cI, 207, .inl zz)), (aStk, .inl (cI, 64, .inl stk__3)), (aLaid, .inl (cI, 64, .inl laid__4))]) (w1 := [(aM, .inr (5, [.ref aZ, .ref aPast, .int pastMany, .ref aKz, .int isKept, .ref aBuf, .int typed, .ref aStk, .ref aLaid, .int wid__1, .int hei__2, .ref aPcs, .ref aTold, .int toldMany, .int spot, .int wrong]))]) hP hD [0] [1, 2, 3] rfl rfl (by decide) (by decide) hk1 hFc hP1 hD1
      have hP := hP.sub (ws' := [(aM, .inr (5, [.ref aZ, .ref aPast, .int pastMany, .ref aKz, .int isKept, .ref aBuf, .int typed, .ref aStk, .ref aLaid, .int wid__1, .int hei__2, .ref aPcs, .ref aTold, .int toldMany, .int spot, .int wrong])), (aZ, .inl (cI, 207, .inl zz)), (aStk, .inl (cI, 64, .inl stk__3)), (aLaid, .inl (cI, 64, .inl laid__4))]) [3, 0, 1, 2] rfl
      have hD := hD.sub (ws' := [(aM, .inr (5, [.ref aZ, .ref aPast, .int pastMany, .ref aKz, .int isKept, .ref aBuf, .int typed, .ref aStk, .ref aLaid, .int wid__1, .int hei__2, .ref aPcs, .ref aTold, .int toldMany, .int spot, .int wrong])), (aZ, .inl (cI, 207, .inl zz)), (aStk, .inl (cI, 64, .inl stk__3)), (aLaid, .inl (cI, 64, .inl laid__4))]) [3, 0, 1, 2] (by decide) rfl
      generalize H1 = H at hP hS ⊢
      refine lv_imul hx hb dX6_top_45 ?_
      refine lv_goto (tgt := 51) hx hb dX6_top_46 (by decide) ?_
      exact hret _ _ _ _ _ _ _ _ _ dX6_top_51 hP hD hS hq
set_option maxRecDepth 20000 in
theorem kwX6_whyNotFold_49 : Cond.fieldLink RX6 49 "PunchedFoldsModel" "height" "I" ∈ wsX6_whyNotFold := by decide +kernel
set_option maxRecDepth 20000 in
theorem iwX6_whyNotFold_X6 : ∀ w ∈ wsX60, w ∈ wsX6_whyNotFold := by decide +kernel
set_option maxRecDepth 20000 in
theorem kwX6_whyNotFold_46 : Cond.fieldLink RX6 46 "PunchedFoldsModel" "width" "I" ∈ wsX6_whyNotFold := by decide +kernel
set_option maxHeartbeats 4000000 in
set_option maxRecDepth 100000 in
theorem c_X6_whyNotFold (l : Launch) (dC : Nat → ClassId) (dI : Nat → Nat → Nat) (cI cC cS : ClassId) (aM : Nat) (aZ : Nat) (aPast : Nat) (aKz : Nat) (aBuf : Nat) (aStk : Nat) (aLaid : Nat) (aPcs : Nat) (aTold : Nat) (sz : Nat) (pastMany : Int32) (isKept : Int32) (typed : Int32) (wid : Int32) (hei : Int32) (toldMany : Int32) (spot : Int32) (wrong : Int32) (zz : Nat → Int32) (stk : Nat → Int32) (laid : Nat → Int32) (x1 : Int32) {post : Int32 → Int32 → Int32 → (Nat → Int32) → (Nat → Int32) → Prop} (hq : wp_X6_whyNotFold wid hei zz stk laid x1 post) : Met l yX6_whyNotFold wsX6_whyNotFold ({ frames := 4, cells := 0, slots := 0, locals := 94 } : Room) (gn_Pre (dC, dI) cI cC cS [.ref aM, .int x1] sz [(aM, .inr (5, [.ref aZ, .ref aPast, .int pastMany, .ref aKz, .int isKept, .ref aBuf, .int typed, .ref aStk, .ref aLaid, .int wid, .int hei, .ref aPcs, .ref aTold, .int toldMany, .int spot, .int wrong])), (aZ, .inl (cI, 207, .inl zz)), (aStk, .inl (cI, 64, .inl stk)), (aLaid, .inl (cI, 64, .inl laid))]) (va_Qi (fun (r : Int32) (u : Int32 × Int32 × (Nat → Int32) × (Nat → Int32)) => post r u.1 u.2.1 u.2.2.1 u.2.2.2) (fun (u : Int32 × Int32 × (Nat → Int32) × (Nat → Int32)) t => va_P (dC, dI) vwCl [(aM, .inr (5, [.ref aZ, .ref aPast, .int pastMany, .ref aKz, .int isKept, .ref aBuf, .int typed, .ref aStk, .ref aLaid, .int u.1, .int u.2.1, .ref aPcs, .ref aTold, .int toldMany, .int spot, .int wrong])), (aZ, .inl (cI, 207, .inl zz)), (aStk, .inl (cI, 64, .inl u.2.2.1)), (aLaid, .inl (cI, 64, .inl u.2.2.2))] t.heap ∧ va_K (dC, dI) vwCl (gn_tys cI cC cS) t ∧ va_D (va_A [(aM, .inr (5, [.ref aZ, .ref aPast, .int pastMany, .ref aKz, .int isKept, .ref aBuf, .int typed, .ref aStk, .ref aLaid, .int wid, .int hei, .ref aPcs, .ref aTold, .int toldMany, .int spot, .int wrong])), (aZ, .inl (cI, 207, .inl zz)), (aStk, .inl (cI, 64, .inl stk)), (aLaid, .inl (cI, 64, .inl laid))] sz) [(aM, .inr (5, [.ref aZ, .ref aPast, .int pastMany, .ref aKz, .int isKept, .ref aBuf, .int typed, .ref aStk, .ref aLaid, .int u.1, .int u.2.1, .ref aPcs, .ref aTold, .int toldMany, .int spot, .int wrong])), (aZ, .inl (cI, 207, .inl zz)), (aStk, .inl (cI, 64, .inl u.2.2.1)), (aLaid, .inl (cI, 64, .inl u.2.2.2))]) (va_A [(aM, .inr (5, [.ref aZ, .ref aPast, .int pastMany, .ref aKz, .int isKept, .ref aBuf, .int typed, .ref aStk, .ref aLaid, .int wid, .int hei, .ref aPcs, .ref aTold, .int toldMany, .int spot, .int wrong])), (aZ, .inl (cI, 207, .inl zz)), (aStk, .inl (cI, 64, .inl stk)), (aLaid, .inl (cI, 64, .inl laid))] sz)) 0 0 (va_A [(aM, .inr (5, [.ref aZ, .ref aPast, .int pastMany, .ref aKz, .int isKept, .ref aBuf, .int typed, .ref aStk, .ref aLaid, .int wid, .int hei, .ref aPcs, .ref aTold, .int toldMany, .int spot, .int wrong])), (aZ, .inl (cI, 207, .inl zz)), (aStk, .inl (cI, 64, .inl stk)), (aLaid, .inl (cI, 64, .inl laid))] sz) := by
  unfold wp_X6_whyNotFold at hq
  refine Met.ofW (cc := cX6_whyNotFold) (maxL := 2) (ret := (some .int)) (by decide) rfl ?_
  intro p e s m args below meth c s₁ B hml hv
  obtain ⟨rfl, hsz, hP, hK, hN, hD0⟩ := hv
  have hx := B.exec
  have hb := B.bytes
  have hr := B.returns
  have hts := atoms_spec (ws := wsX6_whyNotFold) B.pre
  have hown : s.vm.findClass RX6 = some m.cls := findClass_of_methodNamed B.named
  have hlocks := B.notSynchronized
  subst hsz
  have hD := hD0.self (sz := s.heap.size)
  generalize hAe : va_A [(aM, .inr (5, [.ref aZ, .ref aPast, .int pastMany, .ref aKz, .int isKept, .ref aBuf, .int typed, .ref aStk, .ref aLaid, .int wid, .int hei, .ref aPcs, .ref aTold, .int toldMany, .int spot, .int wrong])), (aZ, .inl (cI, 207, .inl zz)), (aStk, .inl (cI, 64, .inl stk)), (aLaid, .inl (cI, 64, .inl laid))] s.heap.size = A at hD ⊢
  have hA : ∀ q : Nat, s.heap.size ≤ q → A q := fun q h => by rw [← hAe]; exact Or.inr h
  have hS : va_S A s.heap s.heap [] := va_S.rf
  have hl := lv_entry ([.ref aM, .int x1] : List Value) (n := 2) (Nat.le_of_ble_eq_true rfl)
  rw [lg_entry_eq]
  generalize (lg_sl ([.ref aM, .int x1] : List Value) ++ List.replicate (2 - (lg_sl ([.ref aM, .int x1] : List Value)).length) Slot.unset).toArray = ls at hl ⊢
  have hl : lv_has ls 2 [(0, .ref aM), (1, .int x1)] := hl
  refine gn_Q (hret := fun Q => ∀ (pc : Nat) (ls : Array Slot) (H : Heap) (locs : List Loc) (r : Int32) (m_wid : Int32) (m_hei : Int32) (m_stk : Nat → Int32) (m_laid : Nat → Int32), decode cX6_whyNotFold pc = .ok (.ireturn, 1) → va_P (dC, dI) vwCl [(aM, .inr (5, [.ref aZ, .ref aPast, .int pastMany, .ref aKz, .int isKept, .ref aBuf, .int typed, .ref aStk, .ref aLaid, .int m_wid, .int m_hei, .ref aPcs, .ref aTold, .int toldMany, .int spot, .int wrong])), (aZ, .inl (cI, 207, .inl zz)), (aStk, .inl (cI, 64, .inl m_stk)), (aLaid, .inl (cI, 64, .inl m_laid))] H → va_D A [(aM, .inr (5, [.ref aZ, .ref aPast, .int pastMany, .ref aKz, .int isKept, .ref aBuf, .int typed, .ref aStk, .ref aLaid, .int m_wid, .int m_hei, .ref aPcs, .ref aTold, .int toldMany, .int spot, .int wrong])), (aZ, .inl (cI, 207, .inl zz)), (aStk, .inl (cI, 64, .inl m_stk)), (aLaid, .inl (cI, 64, .inl m_laid))] → va_S A s.heap H locs → post r m_wid m_hei m_stk m_laid → W p l e ({ frames := 4, cells := 0, slots := 0, locals := 94 } : Room) s m ([.ref aM, .int x1] : List Value).toArray below meth c H locs 0 0 Q (F0 m pc ls [.int r])) (fun Q hret => ?_) ?_
  rotate_left
  · intro pc ls H locs r m_wid m_hei m_stk m_laid hdg hP hD hS hpost
    exact W.iret (v := r) hx hb hr (fun t ht hW => ⟨⟨r, (m_wid, m_hei, m_stk, m_laid), rfl, hpost, by rw [ht]; exact hP, va_K.moved hW.alike hK, hD⟩, hS.F ht⟩) hS.2.2 hdg
  refine lv_iload_n hx hb dX6_whyNotFold_0 rfl (lv_at hl 1 rfl) ?_
  refine lv_iconst (v := 0) hx hb dX6_whyNotFold_1 (by decide) ?_
  refine lv_iconst (v := 3) hx hb dX6_whyNotFold_2 (by decide) ?_
  have hPc := hP.sub (ws' := []) [] rfl
  have hDc := hD.sub (ws' := []) [] (by decide) rfl
  have hFc := va_free (wc := []) hD hS hA [] rfl
  refine va_calli (va_runS (As := [.int x1, .int (0 : Int32), .int (3 : Int32)]) (rest := []) ⟨hx, hb, hml, hown, hts⟩ (c_X6_in l dC dI cI cC cS _ x1 (0 : Int32) (3 : Int32) hq) (va_cwS 3 hts gX6_whyNotFold_X6_in rfl rfl rfl (by decide +kernel) ⟨Nat.le_of_ble_eq_true rfl, Nat.le_of_ble_eq_true rfl⟩) (gn_preS hPc hK hN hDc) rfl rfl hl.1 rfl (lv_room (Nat.le_of_ble_eq_true rfl)) dX6_whyNotFold_3 ⟨Nat.zero_le _, Nat.zero_le _⟩) hS (fun q _ h => hFc q h) hFc (fun r_1 u t H1 locs ht hvm hq hB hz1 hk1 hS => ?_)
  obtain ⟨hP1, hK1, hD1⟩ := hB
  rw [ht] at hP1
  try dsimp only at hq
  obtain ⟨hP, hD⟩ := va_join (wr := [(aM, .inr (5, [.ref aZ, .ref aPast, .int pastMany, .ref aKz, .int isKept, .ref aBuf, .int typed, .ref aStk, .ref aLaid, .int wid, .int hei, .ref aPcs, .ref aTold, .int toldMany, .int spot, .int wrong])), (aZ, .inl (cI, 207, .inl zz)), (aStk, .inl (cI, 64, .inl stk)), (aLaid, .inl (cI, 64, .inl laid))]) (w1 := []) hP hD [] [0, 1, 2, 3] rfl rfl (by decide) (by decide) hk1 hFc hP1 hD1
  have hP := hP.sub (ws' := [(aM, .inr (5, [.ref aZ, .ref aPast, .int pastMany, .ref aKz, .int isKept, .ref aBuf, .int typed, .ref aStk, .ref aLaid, .int wid, .int hei, .ref aPcs, .ref aTold, .int toldMany, .int spot, .int wrong])), (aZ, .inl (cI, 207, .inl zz)), (aStk, .inl (cI, 64, .inl stk)), (aLaid, .inl (cI, 64, .inl laid))]) [0, 1, 2, 3] rfl
  have hD := hD.sub (ws' := [(aM, .inr (5, [.ref aZ, .ref aPast, .int pastMany, .ref aKz, .int isKept, .ref aBuf, .int typed, .ref aStk, .ref aLaid, .int wid, .int hei, .ref aPcs, .ref aTold, .int toldMany, .int spot, .int wrong])), (aZ, .inl (cI, 207, .inl zz)), (aStk, .inl (cI, 64, .inl stk)), (aLaid, .inl (cI, 64, .inl laid))]) [0, 1, 2, 3] (by decide) rfl
  generalize H1 = H at hP hS ⊢
  refine lv_if_ne (tgt := 12) hx hb dX6_whyNotFold_6 (by decide) (fun hc => ?_) (fun hc => ?_)
  · have hq := hq.1 hc
    refine lv_aload_n hx hb dX6_whyNotFold_12 rfl (lv_at hl 0 rfl) ?_
    have hPc := hP.sub (ws' := [(aM, .inr (5, [.ref aZ, .ref aPast, .int pastMany, .ref aKz, .int isKept, .ref aBuf, .int typed, .ref aStk, .ref aLaid, .int wid, .int hei, .ref aPcs, .ref aTold, .int toldMany, .int spot, .int wrong])), (aZ, .inl (cI, 207, .inl zz)), (aStk, .inl (cI, 64, .inl stk)), (aLaid, .inl (cI, 64, .inl laid))]) [0, 1, 2, 3] rfl
    have hDc := hD.sub (ws' := [(aM, .inr (5, [.ref aZ, .ref aPast, .int pastMany, .ref aKz, .int isKept, .ref aBuf, .int typed, .ref aStk, .ref aLaid, .int wid, .int hei, .ref aPcs, .ref aTold, .int toldMany, .int spot, .int wrong])), (aZ, .inl (cI, 207, .inl zz)), (aStk, .inl (cI, 64, .inl stk)), (aLaid, .inl (cI, 64, .inl laid))]) [0, 1, 2, 3] (by decide) rfl
    have hFc := va_free (wc := [(aM, .inr (5, [.ref aZ, .ref aPast, .int pastMany, .ref aKz, .int isKept, .ref aBuf, .int typed, .ref aStk, .ref aLaid, .int wid, .int hei, .ref aPcs, .ref aTold, .int toldMany, .int spot, .int wrong])), (aZ, .inl (cI, 207, .inl zz)), (aStk, .inl (cI, 64, .inl stk)), (aLaid, .inl (cI, 64, .inl laid))]) hD hS hA [0, 1, 2, 3] rfl
    refine va_callv (va_runV (As := []) (rest := []) ⟨hx, hb, hml, hown, hts⟩ (c_X6_layNow l dC dI cI cC cS aM aZ aPast aKz aBuf aStk aLaid aPcs aTold _ pastMany isKept typed wid hei toldMany spot wrong zz stk laid hq) (cwV 0 hts gX6_whyNotFold_X6_layNow rfl rfl rfl (by decide +kernel) ⟨Nat.le_of_ble_eq_true rfl, Nat.le_of_ble_eq_true rfl⟩) (gn_preV hPc hK hN hDc (ci := 5) (q0 := 0) rfl rfl) rfl rfl hl.1 rfl (lv_room (Nat.le_of_ble_eq_true rfl)) dX6_whyNotFold_13 ⟨Nat.zero_le _, Nat.zero_le _⟩) hS (fun q _ h => hFc q h) hFc (fun u t H1 locs ht hvm hq hB hz1 hk1 hS => ?_)
    obtain ⟨wid__2, hei__3, stk__4, laid__5⟩ := u
    obtain ⟨hP1, hK1, hD1⟩ := hB
    rw [ht] at hP1
    try dsimp only at hq
    obtain ⟨hP, hD⟩ := va_join (wr := []) (w1 := [(aM, .inr (5, [.ref aZ, .ref aPast, .int pastMany, .ref aKz, .int isKept, .ref aBuf, .int typed, .ref aStk, .ref aLaid, .int wid__2, .int hei__3, .ref aPcs, .ref aTold, .int toldMany, .int spot, .int wrong])), (aZ, .inl (cI, 207, .inl zz)), (aStk, .inl (cI, 64, .inl stk__4)), (aLaid, .inl (cI, 64, .inl laid__5))]) hP hD [0, 1, 2, 3] [] rfl rfl (by decide) (by decide) hk1 hFc hP1 hD1
    have hP := hP.sub (ws' := [(aM, .inr (5, [.ref aZ, .ref aPast, .int pastMany, .ref aKz, .int isKept, .ref aBuf, .int typed, .ref aStk, .ref aLaid, .int wid__2, .int hei__3, .ref aPcs, .ref aTold, .int toldMany, .int spot, .int wrong])), (aZ, .inl (cI, 207, .inl zz)), (aStk, .inl (cI, 64, .inl stk__4)), (aLaid, .inl (cI, 64, .inl laid__5))]) [0, 1, 2, 3] rfl
    have hD := hD.sub (ws' := [(aM, .inr (5, [.ref aZ, .ref aPast, .int pastMany, .ref aKz, .int isKept, .ref aBuf, .int typed, .ref aStk, .ref aLaid, .int wid__2, .int hei__3, .ref aPcs, .ref aTold, .int toldMany, .int spot, .int wrong])), (aZ, .inl (cI, 207, .inl zz)), (aStk, .inl (cI, 64, .inl stk__4)), (aLaid, .inl (cI, 64, .inl laid__5))]) [0, 1, 2, 3] (by decide) rfl
    generalize H1 = H at hP hS ⊢
    refine lv_iload_n hx hb dX6_whyNotFold_16 rfl (lv_at hl 1 rfl) ?_
    refine lv_iconst (v := 2) hx hb dX6_whyNotFold_17 (by decide) ?_
    have hq := hq (fun (t_6 : Int32) => ∀ (H : Heap) (locs : List Loc) (ls : Array Slot), va_P (dC, dI) vwCl [(aM, .inr (5, [.ref aZ, .ref aPast, .int pastMany, .ref aKz, .int isKept, .ref aBuf, .int typed, .ref aStk, .ref aLaid, .int wid__2, .int hei__3, .ref aPcs, .ref aTold, .int toldMany, .int spot, .int wrong])), (aZ, .inl (cI, 207, .inl zz)), (aStk, .inl (cI, 64, .inl stk__4)), (aLaid, .inl (cI, 64, .inl laid__5))] H → va_D A [(aM, .inr (5, [.ref aZ, .ref aPast, .int pastMany, .ref aKz, .int isKept, .ref aBuf, .int typed, .ref aStk, .ref aLaid, .int wid__2, .int hei__3, .ref aPcs, .ref aTold, .int toldMany, .int spot, .int wrong])), (aZ, .inl (cI, 207, .inl zz)), (aStk, .inl (cI, 64, .inl stk__4)), (aLaid, .inl (cI, 64, .inl laid__5))] → va_S A s.heap H locs → lv_has ls 2 [] → W p l e ({ frames := 4, cells := 0, slots := 0, locals := 94 } : Room) s m ([.ref aM, .int x1] : List Value).toArray below meth c H locs 0 0 Q (F0 m 32 ls [.int t_6])) (by
      intro t_6 hq H locs ls hP hD hS hl
      refine lv_iconst (v := 1) hx hb dX6_whyNotFold_32 (by decide) ?_
      refine lv_icmp_ne (tgt := 41) hx hb dX6_whyNotFold_33 (by decide) (fun hc => ?_) (fun hc => ?_)
      · have hq := hq.1 hc
        refine lv_iconst (v := 0) hx hb dX6_whyNotFold_41 (by decide) ?_
        exact hret _ _ _ _ _ _ _ _ _ dX6_whyNotFold_42 hP hD hS hq
      · have hq := hq.2 hc
        refine lv_bipush (v := -3) hx hb dX6_whyNotFold_36 (by decide) ?_
        refine lv_goto (tgt := 42) hx hb dX6_whyNotFold_38 (by decide) ?_
        exact hret _ _ _ _ _ _ _ _ _ dX6_whyNotFold_42 hP hD hS hq)
    refine lv_icmp_ge (tgt := 28) hx hb dX6_whyNotFold_18 (by decide) (fun hc => ?_) (fun hc => ?_)
    · have hq := hq.1 hc
      refine lv_aload_n hx hb dX6_whyNotFold_28 rfl (lv_at hl 0 rfl) ?_
      refine va_get (D := (dC, dI)) (ci := 5) (v := .int hei__3) (C := RX6) (T := TX6) (N := 16) hx hb hts iwX6_whyNotFold_X6 hown hK hP 0 rfl rfl 10 (by decide) (hts _ kwX6_whyNotFold_49) (fun _ h9 => h9) rfl dX6_whyNotFold_29 ?_
      exact hq _ _ _ hP hD hS (lv_sub hl [] rfl)
    · have hq := hq.2 hc
      refine lv_aload_n hx hb dX6_whyNotFold_21 rfl (lv_at hl 0 rfl) ?_
      refine va_get (D := (dC, dI)) (ci := 5) (v := .int wid__2) (C := RX6) (T := TX6) (N := 16) hx hb hts iwX6_whyNotFold_X6 hown hK hP 0 rfl rfl 9 (by decide) (hts _ kwX6_whyNotFold_46) (fun _ h9 => h9) rfl dX6_whyNotFold_22 ?_
      refine lv_goto (tgt := 32) hx hb dX6_whyNotFold_25 (by decide) ?_
      exact hq _ _ _ hP hD hS (lv_sub hl [] rfl)
  · have hq := hq.2 hc
    refine lv_bipush (v := -2) hx hb dX6_whyNotFold_9 (by decide) ?_
    exact hret _ _ _ _ _ _ _ _ _ dX6_whyNotFold_11 hP hD hS hq
set_option maxRecDepth 20000 in
theorem kwX6_folds_7 : Cond.fieldLink RX6 7 "PunchedFoldsModel" "z" "[I" ∈ wsX6_folds := by decide +kernel
set_option maxRecDepth 20000 in
theorem iwX6_folds_X6 : ∀ w ∈ wsX60, w ∈ wsX6_folds := by decide +kernel
set_option maxHeartbeats 4000000 in
set_option maxRecDepth 100000 in
theorem c_X6_folds (l : Launch) (dC : Nat → ClassId) (dI : Nat → Nat → Nat) (cI cC cS : ClassId) (aM : Nat) (aZ : Nat) (aPast : Nat) (aKz : Nat) (aBuf : Nat) (aStk : Nat) (aLaid : Nat) (aPcs : Nat) (aTold : Nat) (sz : Nat) (pastMany : Int32) (isKept : Int32) (typed : Int32) (wid : Int32) (hei : Int32) (toldMany : Int32) (spot : Int32) (wrong : Int32) (zz : Nat → Int32) (stk : Nat → Int32) (laid : Nat → Int32) (x1 : Int32) {post : Int32 → Int32 → Int32 → (Nat → Int32) → (Nat → Int32) → (Nat → Int32) → Prop} (hq : wp_X6_folds wid hei zz stk laid x1 post) : Met l yX6_folds wsX6_folds ({ frames := 4, cells := 0, slots := 0, locals := 94 } : Room) (gn_Pre (dC, dI) cI cC cS [.ref aM, .int x1] sz [(aM, .inr (5, [.ref aZ, .ref aPast, .int pastMany, .ref aKz, .int isKept, .ref aBuf, .int typed, .ref aStk, .ref aLaid, .int wid, .int hei, .ref aPcs, .ref aTold, .int toldMany, .int spot, .int wrong])), (aZ, .inl (cI, 207, .inl zz)), (aStk, .inl (cI, 64, .inl stk)), (aLaid, .inl (cI, 64, .inl laid))]) (va_Qi (fun (r : Int32) (u : Int32 × Int32 × (Nat → Int32) × (Nat → Int32) × (Nat → Int32)) => post r u.1 u.2.1 u.2.2.1 u.2.2.2.1 u.2.2.2.2) (fun (u : Int32 × Int32 × (Nat → Int32) × (Nat → Int32) × (Nat → Int32)) t => va_P (dC, dI) vwCl [(aM, .inr (5, [.ref aZ, .ref aPast, .int pastMany, .ref aKz, .int isKept, .ref aBuf, .int typed, .ref aStk, .ref aLaid, .int u.1, .int u.2.1, .ref aPcs, .ref aTold, .int toldMany, .int spot, .int wrong])), (aZ, .inl (cI, 207, .inl u.2.2.1)), (aStk, .inl (cI, 64, .inl u.2.2.2.1)), (aLaid, .inl (cI, 64, .inl u.2.2.2.2))] t.heap ∧ va_K (dC, dI) vwCl (gn_tys cI cC cS) t ∧ va_D (va_A [(aM, .inr (5, [.ref aZ, .ref aPast, .int pastMany, .ref aKz, .int isKept, .ref aBuf, .int typed, .ref aStk, .ref aLaid, .int wid, .int hei, .ref aPcs, .ref aTold, .int toldMany, .int spot, .int wrong])), (aZ, .inl (cI, 207, .inl zz)), (aStk, .inl (cI, 64, .inl stk)), (aLaid, .inl (cI, 64, .inl laid))] sz) [(aM, .inr (5, [.ref aZ, .ref aPast, .int pastMany, .ref aKz, .int isKept, .ref aBuf, .int typed, .ref aStk, .ref aLaid, .int u.1, .int u.2.1, .ref aPcs, .ref aTold, .int toldMany, .int spot, .int wrong])), (aZ, .inl (cI, 207, .inl u.2.2.1)), (aStk, .inl (cI, 64, .inl u.2.2.2.1)), (aLaid, .inl (cI, 64, .inl u.2.2.2.2))]) (va_A [(aM, .inr (5, [.ref aZ, .ref aPast, .int pastMany, .ref aKz, .int isKept, .ref aBuf, .int typed, .ref aStk, .ref aLaid, .int wid, .int hei, .ref aPcs, .ref aTold, .int toldMany, .int spot, .int wrong])), (aZ, .inl (cI, 207, .inl zz)), (aStk, .inl (cI, 64, .inl stk)), (aLaid, .inl (cI, 64, .inl laid))] sz)) 0 0 (va_A [(aM, .inr (5, [.ref aZ, .ref aPast, .int pastMany, .ref aKz, .int isKept, .ref aBuf, .int typed, .ref aStk, .ref aLaid, .int wid, .int hei, .ref aPcs, .ref aTold, .int toldMany, .int spot, .int wrong])), (aZ, .inl (cI, 207, .inl zz)), (aStk, .inl (cI, 64, .inl stk)), (aLaid, .inl (cI, 64, .inl laid))] sz) := by
  unfold wp_X6_folds at hq
  refine Met.ofW (cc := cX6_folds) (maxL := 2) (ret := (some .int)) (by decide) rfl ?_
  intro p e s m args below meth c s₁ B hml hv
  obtain ⟨rfl, hsz, hP, hK, hN, hD0⟩ := hv
  have hx := B.exec
  have hb := B.bytes
  have hr := B.returns
  have hts := atoms_spec (ws := wsX6_folds) B.pre
  have hown : s.vm.findClass RX6 = some m.cls := findClass_of_methodNamed B.named
  have hlocks := B.notSynchronized
  subst hsz
  have hD := hD0.self (sz := s.heap.size)
  generalize hAe : va_A [(aM, .inr (5, [.ref aZ, .ref aPast, .int pastMany, .ref aKz, .int isKept, .ref aBuf, .int typed, .ref aStk, .ref aLaid, .int wid, .int hei, .ref aPcs, .ref aTold, .int toldMany, .int spot, .int wrong])), (aZ, .inl (cI, 207, .inl zz)), (aStk, .inl (cI, 64, .inl stk)), (aLaid, .inl (cI, 64, .inl laid))] s.heap.size = A at hD ⊢
  have hA : ∀ q : Nat, s.heap.size ≤ q → A q := fun q h => by rw [← hAe]; exact Or.inr h
  have hS : va_S A s.heap s.heap [] := va_S.rf
  have hl := lv_entry ([.ref aM, .int x1] : List Value) (n := 2) (Nat.le_of_ble_eq_true rfl)
  rw [lg_entry_eq]
  generalize (lg_sl ([.ref aM, .int x1] : List Value) ++ List.replicate (2 - (lg_sl ([.ref aM, .int x1] : List Value)).length) Slot.unset).toArray = ls at hl ⊢
  have hl : lv_has ls 2 [(0, .ref aM), (1, .int x1)] := hl
  refine gn_Q (hret := fun Q => ∀ (pc : Nat) (ls : Array Slot) (H : Heap) (locs : List Loc) (r : Int32) (m_wid : Int32) (m_hei : Int32) (m_zz : Nat → Int32) (m_stk : Nat → Int32) (m_laid : Nat → Int32), decode cX6_folds pc = .ok (.ireturn, 1) → va_P (dC, dI) vwCl [(aM, .inr (5, [.ref aZ, .ref aPast, .int pastMany, .ref aKz, .int isKept, .ref aBuf, .int typed, .ref aStk, .ref aLaid, .int m_wid, .int m_hei, .ref aPcs, .ref aTold, .int toldMany, .int spot, .int wrong])), (aZ, .inl (cI, 207, .inl m_zz)), (aStk, .inl (cI, 64, .inl m_stk)), (aLaid, .inl (cI, 64, .inl m_laid))] H → va_D A [(aM, .inr (5, [.ref aZ, .ref aPast, .int pastMany, .ref aKz, .int isKept, .ref aBuf, .int typed, .ref aStk, .ref aLaid, .int m_wid, .int m_hei, .ref aPcs, .ref aTold, .int toldMany, .int spot, .int wrong])), (aZ, .inl (cI, 207, .inl m_zz)), (aStk, .inl (cI, 64, .inl m_stk)), (aLaid, .inl (cI, 64, .inl m_laid))] → va_S A s.heap H locs → post r m_wid m_hei m_zz m_stk m_laid → W p l e ({ frames := 4, cells := 0, slots := 0, locals := 94 } : Room) s m ([.ref aM, .int x1] : List Value).toArray below meth c H locs 0 0 Q (F0 m pc ls [.int r])) (fun Q hret => ?_) ?_
  rotate_left
  · intro pc ls H locs r m_wid m_hei m_zz m_stk m_laid hdg hP hD hS hpost
    exact W.iret (v := r) hx hb hr (fun t ht hW => ⟨⟨r, (m_wid, m_hei, m_zz, m_stk, m_laid), rfl, hpost, by rw [ht]; exact hP, va_K.moved hW.alike hK, hD⟩, hS.F ht⟩) hS.2.2 hdg
  refine lv_aload_n hx hb dX6_folds_0 rfl (lv_at hl 0 rfl) ?_
  refine va_get (D := (dC, dI)) (ci := 5) (v := .ref aZ) (C := RX6) (T := TX6) (N := 16) hx hb hts iwX6_folds_X6 hown hK hP 0 rfl rfl 0 (by decide) (hts _ kwX6_folds_7) (fun _ h9 => h9) rfl dX6_folds_1 ?_
  refine lv_iconst (v := 1) hx hb dX6_folds_4 (by decide) ?_
  refine lv_aload_n hx hb dX6_folds_5 rfl (lv_at hl 0 rfl) ?_
  refine va_get (D := (dC, dI)) (ci := 5) (v := .ref aZ) (C := RX6) (T := TX6) (N := 16) hx hb hts iwX6_folds_X6 hown hK hP 0 rfl rfl 0 (by decide) (hts _ kwX6_folds_7) (fun _ h9 => h9) rfl dX6_folds_6 ?_
  refine lv_iconst (v := 0) hx hb dX6_folds_9 (by decide) ?_
  have hin := hq.1
  have hq := hq.2
  refine va_iald hx hb hK hP 1 0 rfl rfl hin dX6_folds_10 ?_
  refine lv_iadd hx hb dX6_folds_11 ?_
  refine lv_iload_n hx hb dX6_folds_12 rfl (lv_at hl 1 rfl) ?_
  have hin := hq.1
  have hq := hq.2
  refine va_iast hx hb hK hP hD hS 1 0 rfl rfl hin dX6_folds_13 (fun H locs hP hD hS => ?_)
  have hP : va_P (dC, dI) vwCl [(aM, .inr (5, [.ref aZ, .ref aPast, .int pastMany, .ref aKz, .int isKept, .ref aBuf, .int typed, .ref aStk, .ref aLaid, .int wid, .int hei, .ref aPcs, .ref aTold, .int toldMany, .int spot, .int wrong])), (aZ, .inl (cI, 207, .inl (upd zz (((1 : Int32) + (zz ((0 : Int32)).toNatClampNeg))).toNatClampNeg x1))), (aStk, .inl (cI, 64, .inl stk)), (aLaid, .inl (cI, 64, .inl laid))] H := hP
  have hD : va_D A [(aM, .inr (5, [.ref aZ, .ref aPast, .int pastMany, .ref aKz, .int isKept, .ref aBuf, .int typed, .ref aStk, .ref aLaid, .int wid, .int hei, .ref aPcs, .ref aTold, .int toldMany, .int spot, .int wrong])), (aZ, .inl (cI, 207, .inl (upd zz (((1 : Int32) + (zz ((0 : Int32)).toNatClampNeg))).toNatClampNeg x1))), (aStk, .inl (cI, 64, .inl stk)), (aLaid, .inl (cI, 64, .inl laid))] := hD
  refine lv_aload_n hx hb dX6_folds_14 rfl (lv_at hl 0 rfl) ?_
  refine va_get (D := (dC, dI)) (ci := 5) (v := .ref aZ) (C := RX6) (T := TX6) (N := 16) hx hb hts iwX6_folds_X6 hown hK hP 0 rfl rfl 0 (by decide) (hts _ kwX6_folds_7) (fun _ h9 => h9) rfl dX6_folds_15 ?_
  refine lv_iconst (v := 0) hx hb dX6_folds_18 (by decide) ?_
  refine lv_dup2_11 hx hb dX6_folds_19 rfl rfl ?_
  have hin := hq.1
  have hq := hq.2
  refine va_iald hx hb hK hP 1 0 rfl rfl hin dX6_folds_20 ?_
  refine lv_iconst (v := 1) hx hb dX6_folds_21 (by decide) ?_
  refine lv_iadd hx hb dX6_folds_22 ?_
  have hin := hq.1
  have hq := hq.2
  refine va_iast hx hb hK hP hD hS 1 0 rfl rfl hin dX6_folds_23 (fun H locs hP hD hS => ?_)
  have hP : va_P (dC, dI) vwCl [(aM, .inr (5, [.ref aZ, .ref aPast, .int pastMany, .ref aKz, .int isKept, .ref aBuf, .int typed, .ref aStk, .ref aLaid, .int wid, .int hei, .ref aPcs, .ref aTold, .int toldMany, .int spot, .int wrong])), (aZ, .inl (cI, 207, .inl (upd (upd zz (((1 : Int32) + (zz ((0 : Int32)).toNatClampNeg))).toNatClampNeg x1) ((0 : Int32)).toNatClampNeg (((upd zz (((1 : Int32) + (zz ((0 : Int32)).toNatClampNeg))).toNatClampNeg x1) ((0 : Int32)).toNatClampNeg) + (1 : Int32))))), (aStk, .inl (cI, 64, .inl stk)), (aLaid, .inl (cI, 64, .inl laid))] H := hP
  have hD : va_D A [(aM, .inr (5, [.ref aZ, .ref aPast, .int pastMany, .ref aKz, .int isKept, .ref aBuf, .int typed, .ref aStk, .ref aLaid, .int wid, .int hei, .ref aPcs, .ref aTold, .int toldMany, .int spot, .int wrong])), (aZ, .inl (cI, 207, .inl (upd (upd zz (((1 : Int32) + (zz ((0 : Int32)).toNatClampNeg))).toNatClampNeg x1) ((0 : Int32)).toNatClampNeg (((upd zz (((1 : Int32) + (zz ((0 : Int32)).toNatClampNeg))).toNatClampNeg x1) ((0 : Int32)).toNatClampNeg) + (1 : Int32))))), (aStk, .inl (cI, 64, .inl stk)), (aLaid, .inl (cI, 64, .inl laid))] := hD
  refine lv_aload_n hx hb dX6_folds_24 rfl (lv_at hl 0 rfl) ?_
  have hPc := hP.sub (ws' := [(aM, .inr (5, [.ref aZ, .ref aPast, .int pastMany, .ref aKz, .int isKept, .ref aBuf, .int typed, .ref aStk, .ref aLaid, .int wid, .int hei, .ref aPcs, .ref aTold, .int toldMany, .int spot, .int wrong])), (aZ, .inl (cI, 207, .inl (upd (upd zz (((1 : Int32) + (zz ((0 : Int32)).toNatClampNeg))).toNatClampNeg x1) ((0 : Int32)).toNatClampNeg (((upd zz (((1 : Int32) + (zz ((0 : Int32)).toNatClampNeg))).toNatClampNeg x1) ((0 : Int32)).toNatClampNeg) + (1 : Int32))))), (aStk, .inl (cI, 64, .inl stk)), (aLaid, .inl (cI, 64, .inl laid))]) [0, 1, 2, 3] rfl
  have hDc := hD.sub (ws' := [(aM, .inr (5, [.ref aZ, .ref aPast, .int pastMany, .ref aKz, .int isKept, .ref aBuf, .int typed, .ref aStk, .ref aLaid, .int wid, .int hei, .ref aPcs, .ref aTold, .int toldMany, .int spot, .int wrong])), (aZ, .inl (cI, 207, .inl (upd (upd zz (((1 : Int32) + (zz ((0 : Int32)).toNatClampNeg))).toNatClampNeg x1) ((0 : Int32)).toNatClampNeg (((upd zz (((1 : Int32) + (zz ((0 : Int32)).toNatClampNeg))).toNatClampNeg x1) ((0 : Int32)).toNatClampNeg) + (1 : Int32))))), (aStk, .inl (cI, 64, .inl stk)), (aLaid, .inl (cI, 64, .inl laid))]) [0, 1, 2, 3] (by decide) rfl
  have hFc := va_free (wc := [(aM, .inr (5, [.ref aZ, .ref aPast, .int pastMany, .ref aKz, .int isKept, .ref aBuf, .int typed, .ref aStk, .ref aLaid, .int wid, .int hei, .ref aPcs, .ref aTold, .int toldMany, .int spot, .int wrong])), (aZ, .inl (cI, 207, .inl (upd (upd zz (((1 : Int32) + (zz ((0 : Int32)).toNatClampNeg))).toNatClampNeg x1) ((0 : Int32)).toNatClampNeg (((upd zz (((1 : Int32) + (zz ((0 : Int32)).toNatClampNeg))).toNatClampNeg x1) ((0 : Int32)).toNatClampNeg) + (1 : Int32))))), (aStk, .inl (cI, 64, .inl stk)), (aLaid, .inl (cI, 64, .inl laid))]) hD hS hA [0, 1, 2, 3] rfl
  refine va_callv (va_runV (As := []) (rest := []) ⟨hx, hb, hml, hown, hts⟩ (c_X6_layNow l dC dI cI cC cS aM aZ aPast aKz aBuf aStk aLaid aPcs aTold _ pastMany isKept typed wid hei toldMany spot wrong (upd (upd zz (((1 : Int32) + (zz ((0 : Int32)).toNatClampNeg))).toNatClampNeg x1) ((0 : Int32)).toNatClampNeg (((upd zz (((1 : Int32) + (zz ((0 : Int32)).toNatClampNeg))).toNatClampNeg x1) ((0 : Int32)).toNatClampNeg) + (1 : Int32))) stk laid hq) (cwV 0 hts gX6_folds_X6_layNow rfl rfl rfl (by decide +kernel) ⟨Nat.le_of_ble_eq_true rfl, Nat.le_of_ble_eq_true rfl⟩) (gn_preV hPc hK hN hDc (ci := 5) (q0 := 0) rfl rfl) rfl rfl hl.1 rfl (lv_room (Nat.le_of_ble_eq_true rfl)) dX6_folds_25 ⟨Nat.zero_le _, Nat.zero_le _⟩) hS (fun q _ h => hFc q h) hFc (fun u t H1 locs ht hvm hq hB hz1 hk1 hS => ?_)
  obtain ⟨wid__1, hei__2, stk__3, laid__4⟩ := u
  obtain ⟨hP1, hK1, hD1⟩ := hB
  rw [ht] at hP1
  try dsimp only at hq
  obtain ⟨hP, hD⟩ := va_join (wr := []) (w1 := [(aM, .inr (5, [.ref aZ, .ref aPast, .int pastMany, .ref aKz, .int isKept, .ref aBuf, .int typed, .ref aStk, .ref aLaid, .int wid__1, .int hei__2, .ref aPcs, .ref aTold, .int toldMany, .int spot, .int wrong])), (aZ, .inl (cI, 207, .inl (upd (upd zz (((1 : Int32) + (zz ((0 : Int32)).toNatClampNeg))).toNatClampNeg x1) ((0 : Int32)).toNatClampNeg (((upd zz (((1 : Int32) + (zz ((0 : Int32)).toNatClampNeg))).toNatClampNeg x1) ((0 : Int32)).toNatClampNeg) + (1 : Int32))))), (aStk, .inl (cI, 64, .inl stk__3)), (aLaid, .inl (cI, 64, .inl laid__4))]) hP hD [0, 1, 2, 3] [] rfl rfl (by decide) (by decide) hk1 hFc hP1 hD1
  have hP := hP.sub (ws' := [(aM, .inr (5, [.ref aZ, .ref aPast, .int pastMany, .ref aKz, .int isKept, .ref aBuf, .int typed, .ref aStk, .ref aLaid, .int wid__1, .int hei__2, .ref aPcs, .ref aTold, .int toldMany, .int spot, .int wrong])), (aZ, .inl (cI, 207, .inl (upd (upd zz (((1 : Int32) + (zz ((0 : Int32)).toNatClampNeg))).toNatClampNeg x1) ((0 : Int32)).toNatClampNeg (((upd zz (((1 : Int32) + (zz ((0 : Int32)).toNatClampNeg))).toNatClampNeg x1) ((0 : Int32)).toNatClampNeg) + (1 : Int32))))), (aStk, .inl (cI, 64, .inl stk__3)), (aLaid, .inl (cI, 64, .inl laid__4))]) [0, 1, 2, 3] rfl
  have hD := hD.sub (ws' := [(aM, .inr (5, [.ref aZ, .ref aPast, .int pastMany, .ref aKz, .int isKept, .ref aBuf, .int typed, .ref aStk, .ref aLaid, .int wid__1, .int hei__2, .ref aPcs, .ref aTold, .int toldMany, .int spot, .int wrong])), (aZ, .inl (cI, 207, .inl (upd (upd zz (((1 : Int32) + (zz ((0 : Int32)).toNatClampNeg))).toNatClampNeg x1) ((0 : Int32)).toNatClampNeg (((upd zz (((1 : Int32) + (zz ((0 : Int32)).toNatClampNeg))).toNatClampNeg x1) ((0 : Int32)).toNatClampNeg) + (1 : Int32))))), (aStk, .inl (cI, 64, .inl stk__3)), (aLaid, .inl (cI, 64, .inl laid__4))]) [0, 1, 2, 3] (by decide) rfl
  generalize H1 = H at hP hS ⊢
  refine lv_aload_n hx hb dX6_folds_28 rfl (lv_at hl 0 rfl) ?_
  have hPc := hP.sub (ws' := [(aM, .inr (5, [.ref aZ, .ref aPast, .int pastMany, .ref aKz, .int isKept, .ref aBuf, .int typed, .ref aStk, .ref aLaid, .int wid__1, .int hei__2, .ref aPcs, .ref aTold, .int toldMany, .int spot, .int wrong]))]) [0] rfl
  have hDc := hD.sub (ws' := [(aM, .inr (5, [.ref aZ, .ref aPast, .int pastMany, .ref aKz, .int isKept, .ref aBuf, .int typed, .ref aStk, .ref aLaid, .int wid__1, .int hei__2, .ref aPcs, .ref aTold, .int toldMany, .int spot, .int wrong]))]) [0] (by decide) rfl
  have hFc := va_free (wc := [(aM, .inr (5, [.ref aZ, .ref aPast, .int pastMany, .ref aKz, .int isKept, .ref aBuf, .int typed, .ref aStk, .ref aLaid, .int wid__1, .int hei__2, .ref aPcs, .ref aTold, .int toldMany, .int spot, .int wrong]))]) hD hS hA [0] rfl
  refine va_calli (va_runV (As := []) (rest := []) ⟨hx, hb, hml, hown, hts⟩ (c_X6_layers l dC dI cI cC cS aM aZ aPast aKz aBuf aStk aLaid aPcs aTold _ pastMany isKept typed wid__1 hei__2 toldMany spot wrong hq) (cwV 0 hts gX6_folds_X6_layers rfl rfl rfl (by decide +kernel) ⟨Nat.le_of_ble_eq_true rfl, Nat.le_of_ble_eq_true rfl⟩) (gn_preV hPc hK hN hDc (ci := 5) (q0 := 0) rfl rfl) rfl rfl hl.1 rfl (lv_room (Nat.le_of_ble_eq_true rfl)) dX6_folds_29 ⟨Nat.zero_le _, Nat.zero_le _⟩) hS (fun q _ h => hFc q h) hFc (fun r_5 u t H1 locs ht hvm hq hB hz1 hk1 hS => ?_)
  obtain ⟨hP1, hK1, hD1⟩ := hB
  rw [ht] at hP1
  try dsimp only at hq
  obtain ⟨hP, hD⟩ := va_join (wr := [(aZ, .inl (cI, 207, .inl (upd (upd zz (((1 : Int32) + (zz ((0 : Int32)).toNatClampNeg))).toNatClampNeg x1) ((0 : Int32)).toNatClampNeg (((upd zz (((1 : Int32) + (zz ((0 : Int32)).toNatClampNeg))).toNatClampNeg x1) ((0 : Int32)).toNatClampNeg) + (1 : Int32))))), (aStk, .inl (cI, 64, .inl stk__3)), (aLaid, .inl (cI, 64, .inl laid__4))]) (w1 := [(aM, .inr (5, [.ref aZ, .ref aPast, .int pastMany, .ref aKz, .int isKept, .ref aBuf, .int typed, .ref aStk, .ref aLaid, .int wid__1, .int hei__2, .ref aPcs, .ref aTold, .int toldMany, .int spot, .int wrong]))]) hP hD [0] [1, 2, 3] rfl rfl (by decide) (by decide) hk1 hFc hP1 hD1
  have hP := hP.sub (ws' := [(aM, .inr (5, [.ref aZ, .ref aPast, .int pastMany, .ref aKz, .int isKept, .ref aBuf, .int typed, .ref aStk, .ref aLaid, .int wid__1, .int hei__2, .ref aPcs, .ref aTold, .int toldMany, .int spot, .int wrong])), (aZ, .inl (cI, 207, .inl (upd (upd zz (((1 : Int32) + (zz ((0 : Int32)).toNatClampNeg))).toNatClampNeg x1) ((0 : Int32)).toNatClampNeg (((upd zz (((1 : Int32) + (zz ((0 : Int32)).toNatClampNeg))).toNatClampNeg x1) ((0 : Int32)).toNatClampNeg) + (1 : Int32))))), (aStk, .inl (cI, 64, .inl stk__3)), (aLaid, .inl (cI, 64, .inl laid__4))]) [3, 0, 1, 2] rfl
  have hD := hD.sub (ws' := [(aM, .inr (5, [.ref aZ, .ref aPast, .int pastMany, .ref aKz, .int isKept, .ref aBuf, .int typed, .ref aStk, .ref aLaid, .int wid__1, .int hei__2, .ref aPcs, .ref aTold, .int toldMany, .int spot, .int wrong])), (aZ, .inl (cI, 207, .inl (upd (upd zz (((1 : Int32) + (zz ((0 : Int32)).toNatClampNeg))).toNatClampNeg x1) ((0 : Int32)).toNatClampNeg (((upd zz (((1 : Int32) + (zz ((0 : Int32)).toNatClampNeg))).toNatClampNeg x1) ((0 : Int32)).toNatClampNeg) + (1 : Int32))))), (aStk, .inl (cI, 64, .inl stk__3)), (aLaid, .inl (cI, 64, .inl laid__4))]) [3, 0, 1, 2] (by decide) rfl
  generalize H1 = H at hP hS ⊢
  exact hret _ _ _ _ _ _ _ _ _ _ dX6_folds_32 hP hD hS hq
set_option maxHeartbeats 4000000 in
set_option maxRecDepth 100000 in
theorem c_X6_fold (l : Launch) (dC : Nat → ClassId) (dI : Nat → Nat → Nat) (cI cC cS : ClassId) (aM : Nat) (aZ : Nat) (aPast : Nat) (aKz : Nat) (aBuf : Nat) (aStk : Nat) (aLaid : Nat) (aPcs : Nat) (aTold : Nat) (sz : Nat) (pastMany : Int32) (isKept : Int32) (typed : Int32) (wid : Int32) (hei : Int32) (toldMany : Int32) (spot : Int32) (wrong : Int32) (zz : Nat → Int32) (past : Nat → Int32) (stk : Nat → Int32) (laid : Nat → Int32) (x1 : Int32) {post : Int32 → Int32 → Int32 → Int32 → (Nat → Int32) → (Nat → Int32) → (Nat → Int32) → (Nat → Int32) → Prop} (hq : wp_X6_fold pastMany wid hei zz past stk laid x1 post) : Met l yX6_fold wsX6_fold ({ frames := 5, cells := 0, slots := 0, locals := 115 } : Room) (gn_Pre (dC, dI) cI cC cS [.ref aM, .int x1] sz [(aM, .inr (5, [.ref aZ, .ref aPast, .int pastMany, .ref aKz, .int isKept, .ref aBuf, .int typed, .ref aStk, .ref aLaid, .int wid, .int hei, .ref aPcs, .ref aTold, .int toldMany, .int spot, .int wrong])), (aZ, .inl (cI, 207, .inl zz)), (aPast, .inl (cI, 1035, .inl past)), (aStk, .inl (cI, 64, .inl stk)), (aLaid, .inl (cI, 64, .inl laid))]) (va_Qi (fun (r : Int32) (u : Int32 × Int32 × Int32 × (Nat → Int32) × (Nat → Int32) × (Nat → Int32) × (Nat → Int32)) => post r u.1 u.2.1 u.2.2.1 u.2.2.2.1 u.2.2.2.2.1 u.2.2.2.2.2.1 u.2.2.2.2.2.2) (fun (u : Int32 × Int32 × Int32 × (Nat → Int32) × (Nat → Int32) × (Nat → Int32) × (Nat → Int32)) t => va_P (dC, dI) vwCl [(aM, .inr (5, [.ref aZ, .ref aPast, .int u.1, .ref aKz, .int isKept, .ref aBuf, .int typed, .ref aStk, .ref aLaid, .int u.2.1, .int u.2.2.1, .ref aPcs, .ref aTold, .int toldMany, .int spot, .int wrong])), (aZ, .inl (cI, 207, .inl u.2.2.2.1)), (aPast, .inl (cI, 1035, .inl u.2.2.2.2.1)), (aStk, .inl (cI, 64, .inl u.2.2.2.2.2.1)), (aLaid, .inl (cI, 64, .inl u.2.2.2.2.2.2))] t.heap ∧ va_K (dC, dI) vwCl (gn_tys cI cC cS) t ∧ va_D (va_A [(aM, .inr (5, [.ref aZ, .ref aPast, .int pastMany, .ref aKz, .int isKept, .ref aBuf, .int typed, .ref aStk, .ref aLaid, .int wid, .int hei, .ref aPcs, .ref aTold, .int toldMany, .int spot, .int wrong])), (aZ, .inl (cI, 207, .inl zz)), (aPast, .inl (cI, 1035, .inl past)), (aStk, .inl (cI, 64, .inl stk)), (aLaid, .inl (cI, 64, .inl laid))] sz) [(aM, .inr (5, [.ref aZ, .ref aPast, .int u.1, .ref aKz, .int isKept, .ref aBuf, .int typed, .ref aStk, .ref aLaid, .int u.2.1, .int u.2.2.1, .ref aPcs, .ref aTold, .int toldMany, .int spot, .int wrong])), (aZ, .inl (cI, 207, .inl u.2.2.2.1)), (aPast, .inl (cI, 1035, .inl u.2.2.2.2.1)), (aStk, .inl (cI, 64, .inl u.2.2.2.2.2.1)), (aLaid, .inl (cI, 64, .inl u.2.2.2.2.2.2))]) (va_A [(aM, .inr (5, [.ref aZ, .ref aPast, .int pastMany, .ref aKz, .int isKept, .ref aBuf, .int typed, .ref aStk, .ref aLaid, .int wid, .int hei, .ref aPcs, .ref aTold, .int toldMany, .int spot, .int wrong])), (aZ, .inl (cI, 207, .inl zz)), (aPast, .inl (cI, 1035, .inl past)), (aStk, .inl (cI, 64, .inl stk)), (aLaid, .inl (cI, 64, .inl laid))] sz)) 0 0 (va_A [(aM, .inr (5, [.ref aZ, .ref aPast, .int pastMany, .ref aKz, .int isKept, .ref aBuf, .int typed, .ref aStk, .ref aLaid, .int wid, .int hei, .ref aPcs, .ref aTold, .int toldMany, .int spot, .int wrong])), (aZ, .inl (cI, 207, .inl zz)), (aPast, .inl (cI, 1035, .inl past)), (aStk, .inl (cI, 64, .inl stk)), (aLaid, .inl (cI, 64, .inl laid))] sz) := by
  unfold wp_X6_fold at hq
  refine Met.ofW (cc := cX6_fold) (maxL := 3) (ret := (some .int)) (by decide) rfl ?_
  intro p e s m args below meth c s₁ B hml hv
  obtain ⟨rfl, hsz, hP, hK, hN, hD0⟩ := hv
  have hx := B.exec
  have hb := B.bytes
  have hr := B.returns
  have hts := atoms_spec (ws := wsX6_fold) B.pre
  have hown : s.vm.findClass RX6 = some m.cls := findClass_of_methodNamed B.named
  have hlocks := B.notSynchronized
  subst hsz
  have hD := hD0.self (sz := s.heap.size)
  generalize hAe : va_A [(aM, .inr (5, [.ref aZ, .ref aPast, .int pastMany, .ref aKz, .int isKept, .ref aBuf, .int typed, .ref aStk, .ref aLaid, .int wid, .int hei, .ref aPcs, .ref aTold, .int toldMany, .int spot, .int wrong])), (aZ, .inl (cI, 207, .inl zz)), (aPast, .inl (cI, 1035, .inl past)), (aStk, .inl (cI, 64, .inl stk)), (aLaid, .inl (cI, 64, .inl laid))] s.heap.size = A at hD ⊢
  have hA : ∀ q : Nat, s.heap.size ≤ q → A q := fun q h => by rw [← hAe]; exact Or.inr h
  have hS : va_S A s.heap s.heap [] := va_S.rf
  have hl := lv_entry ([.ref aM, .int x1] : List Value) (n := 3) (Nat.le_of_ble_eq_true rfl)
  rw [lg_entry_eq]
  generalize (lg_sl ([.ref aM, .int x1] : List Value) ++ List.replicate (3 - (lg_sl ([.ref aM, .int x1] : List Value)).length) Slot.unset).toArray = ls at hl ⊢
  have hl : lv_has ls 3 [(0, .ref aM), (1, .int x1)] := hl
  refine gn_Q (hret := fun Q => ∀ (pc : Nat) (ls : Array Slot) (H : Heap) (locs : List Loc) (r : Int32) (m_pastMany : Int32) (m_wid : Int32) (m_hei : Int32) (m_zz : Nat → Int32) (m_past : Nat → Int32) (m_stk : Nat → Int32) (m_laid : Nat → Int32), decode cX6_fold pc = .ok (.ireturn, 1) → va_P (dC, dI) vwCl [(aM, .inr (5, [.ref aZ, .ref aPast, .int m_pastMany, .ref aKz, .int isKept, .ref aBuf, .int typed, .ref aStk, .ref aLaid, .int m_wid, .int m_hei, .ref aPcs, .ref aTold, .int toldMany, .int spot, .int wrong])), (aZ, .inl (cI, 207, .inl m_zz)), (aPast, .inl (cI, 1035, .inl m_past)), (aStk, .inl (cI, 64, .inl m_stk)), (aLaid, .inl (cI, 64, .inl m_laid))] H → va_D A [(aM, .inr (5, [.ref aZ, .ref aPast, .int m_pastMany, .ref aKz, .int isKept, .ref aBuf, .int typed, .ref aStk, .ref aLaid, .int m_wid, .int m_hei, .ref aPcs, .ref aTold, .int toldMany, .int spot, .int wrong])), (aZ, .inl (cI, 207, .inl m_zz)), (aPast, .inl (cI, 1035, .inl m_past)), (aStk, .inl (cI, 64, .inl m_stk)), (aLaid, .inl (cI, 64, .inl m_laid))] → va_S A s.heap H locs → post r m_pastMany m_wid m_hei m_zz m_past m_stk m_laid → W p l e ({ frames := 5, cells := 0, slots := 0, locals := 115 } : Room) s m ([.ref aM, .int x1] : List Value).toArray below meth c H locs 0 0 Q (F0 m pc ls [.int r])) (fun Q hret => ?_) ?_
  rotate_left
  · intro pc ls H locs r m_pastMany m_wid m_hei m_zz m_past m_stk m_laid hdg hP hD hS hpost
    exact W.iret (v := r) hx hb hr (fun t ht hW => ⟨⟨r, (m_pastMany, m_wid, m_hei, m_zz, m_past, m_stk, m_laid), rfl, hpost, by rw [ht]; exact hP, va_K.moved hW.alike hK, hD⟩, hS.F ht⟩) hS.2.2 hdg
  refine lv_aload_n hx hb dX6_fold_0 rfl (lv_at hl 0 rfl) ?_
  refine lv_iload_n hx hb dX6_fold_1 rfl (lv_at hl 1 rfl) ?_
  have hPc := hP.sub (ws' := [(aM, .inr (5, [.ref aZ, .ref aPast, .int pastMany, .ref aKz, .int isKept, .ref aBuf, .int typed, .ref aStk, .ref aLaid, .int wid, .int hei, .ref aPcs, .ref aTold, .int toldMany, .int spot, .int wrong])), (aZ, .inl (cI, 207, .inl zz)), (aStk, .inl (cI, 64, .inl stk)), (aLaid, .inl (cI, 64, .inl laid))]) [0, 1, 3, 4] rfl
  have hDc := hD.sub (ws' := [(aM, .inr (5, [.ref aZ, .ref aPast, .int pastMany, .ref aKz, .int isKept, .ref aBuf, .int typed, .ref aStk, .ref aLaid, .int wid, .int hei, .ref aPcs, .ref aTold, .int toldMany, .int spot, .int wrong])), (aZ, .inl (cI, 207, .inl zz)), (aStk, .inl (cI, 64, .inl stk)), (aLaid, .inl (cI, 64, .inl laid))]) [0, 1, 3, 4] (by decide) rfl
  have hFc := va_free (wc := [(aM, .inr (5, [.ref aZ, .ref aPast, .int pastMany, .ref aKz, .int isKept, .ref aBuf, .int typed, .ref aStk, .ref aLaid, .int wid, .int hei, .ref aPcs, .ref aTold, .int toldMany, .int spot, .int wrong])), (aZ, .inl (cI, 207, .inl zz)), (aStk, .inl (cI, 64, .inl stk)), (aLaid, .inl (cI, 64, .inl laid))]) hD hS hA [0, 1, 3, 4] rfl
  refine va_calli (va_runV (As := [.int x1]) (rest := []) ⟨hx, hb, hml, hown, hts⟩ (c_X6_whyNotFold l dC dI cI cC cS aM aZ aPast aKz aBuf aStk aLaid aPcs aTold _ pastMany isKept typed wid hei toldMany spot wrong zz stk laid x1 hq) (cwV 1 hts gX6_fold_X6_whyNotFold rfl rfl rfl (by decide +kernel) ⟨Nat.le_of_ble_eq_true rfl, Nat.le_of_ble_eq_true rfl⟩) (gn_preV hPc hK hN hDc (ci := 5) (q0 := 0) rfl rfl) rfl rfl hl.1 rfl (lv_room (Nat.le_of_ble_eq_true rfl)) dX6_fold_2 ⟨Nat.zero_le _, Nat.zero_le _⟩) hS (fun q _ h => hFc q h) hFc (fun r_1 u t H1 locs ht hvm hq hB hz1 hk1 hS => ?_)
  obtain ⟨wid__2, hei__3, stk__4, laid__5⟩ := u
  obtain ⟨hP1, hK1, hD1⟩ := hB
  rw [ht] at hP1
  try dsimp only at hq
  obtain ⟨hP, hD⟩ := va_join (wr := [(aPast, .inl (cI, 1035, .inl past))]) (w1 := [(aM, .inr (5, [.ref aZ, .ref aPast, .int pastMany, .ref aKz, .int isKept, .ref aBuf, .int typed, .ref aStk, .ref aLaid, .int wid__2, .int hei__3, .ref aPcs, .ref aTold, .int toldMany, .int spot, .int wrong])), (aZ, .inl (cI, 207, .inl zz)), (aStk, .inl (cI, 64, .inl stk__4)), (aLaid, .inl (cI, 64, .inl laid__5))]) hP hD [0, 1, 3, 4] [2] rfl rfl (by decide) (by decide) hk1 hFc hP1 hD1
  have hP := hP.sub (ws' := [(aM, .inr (5, [.ref aZ, .ref aPast, .int pastMany, .ref aKz, .int isKept, .ref aBuf, .int typed, .ref aStk, .ref aLaid, .int wid__2, .int hei__3, .ref aPcs, .ref aTold, .int toldMany, .int spot, .int wrong])), (aZ, .inl (cI, 207, .inl zz)), (aPast, .inl (cI, 1035, .inl past)), (aStk, .inl (cI, 64, .inl stk__4)), (aLaid, .inl (cI, 64, .inl laid__5))]) [1, 2, 0, 3, 4] rfl
  have hD := hD.sub (ws' := [(aM, .inr (5, [.ref aZ, .ref aPast, .int pastMany, .ref aKz, .int isKept, .ref aBuf, .int typed, .ref aStk, .ref aLaid, .int wid__2, .int hei__3, .ref aPcs, .ref aTold, .int toldMany, .int spot, .int wrong])), (aZ, .inl (cI, 207, .inl zz)), (aPast, .inl (cI, 1035, .inl past)), (aStk, .inl (cI, 64, .inl stk__4)), (aLaid, .inl (cI, 64, .inl laid__5))]) [1, 2, 0, 3, 4] (by decide) rfl
  generalize H1 = H at hP hS ⊢
  refine lv_istore_n (lv' := [(2, .int r_1), (0, .ref aM), (1, .int x1)]) hx hb dX6_fold_5 rfl hl (by decide) rfl (fun ls hl => ?_)
  refine lv_iload_n hx hb dX6_fold_6 rfl (lv_at hl 0 rfl) ?_
  refine lv_if_ge (tgt := 12) hx hb dX6_fold_7 (by decide) (fun hc => ?_) (fun hc => ?_)
  · have hq := hq.1 hc
    refine lv_aload_n hx hb dX6_fold_12 rfl (lv_at hl 1 rfl) ?_
    have hPc := hP.sub (ws' := [(aM, .inr (5, [.ref aZ, .ref aPast, .int pastMany, .ref aKz, .int isKept, .ref aBuf, .int typed, .ref aStk, .ref aLaid, .int wid__2, .int hei__3, .ref aPcs, .ref aTold, .int toldMany, .int spot, .int wrong])), (aZ, .inl (cI, 207, .inl zz)), (aPast, .inl (cI, 1035, .inl past))]) [0, 1, 2] rfl
    have hDc := hD.sub (ws' := [(aM, .inr (5, [.ref aZ, .ref aPast, .int pastMany, .ref aKz, .int isKept, .ref aBuf, .int typed, .ref aStk, .ref aLaid, .int wid__2, .int hei__3, .ref aPcs, .ref aTold, .int toldMany, .int spot, .int wrong])), (aZ, .inl (cI, 207, .inl zz)), (aPast, .inl (cI, 1035, .inl past))]) [0, 1, 2] (by decide) rfl
    have hFc := va_free (wc := [(aM, .inr (5, [.ref aZ, .ref aPast, .int pastMany, .ref aKz, .int isKept, .ref aBuf, .int typed, .ref aStk, .ref aLaid, .int wid__2, .int hei__3, .ref aPcs, .ref aTold, .int toldMany, .int spot, .int wrong])), (aZ, .inl (cI, 207, .inl zz)), (aPast, .inl (cI, 1035, .inl past))]) hD hS hA [0, 1, 2] rfl
    refine va_callv (va_runV (As := []) (rest := []) ⟨hx, hb, hml, hown, hts⟩ (c_X6_record l dC dI cI cC cS aM aZ aPast aKz aBuf aStk aLaid aPcs aTold _ pastMany isKept typed wid__2 hei__3 toldMany spot wrong zz past hq) (cwV 0 hts gX6_fold_X6_record rfl rfl rfl (by decide +kernel) ⟨Nat.le_of_ble_eq_true rfl, Nat.le_of_ble_eq_true rfl⟩) (gn_preV hPc hK hN hDc (ci := 5) (q0 := 0) rfl rfl) rfl rfl hl.1 rfl (lv_room (Nat.le_of_ble_eq_true rfl)) dX6_fold_13 ⟨Nat.zero_le _, Nat.zero_le _⟩) hS (fun q _ h => hFc q h) hFc (fun u t H1 locs ht hvm hq hB hz1 hk1 hS => ?_)
    obtain ⟨pastMany__6, past__7⟩ := u
    obtain ⟨hP1, hK1, hD1⟩ := hB
    rw [ht] at hP1
    try dsimp only at hq
    obtain ⟨hP, hD⟩ := va_join (wr := [(aStk, .inl (cI, 64, .inl stk__4)), (aLaid, .inl (cI, 64, .inl laid__5))]) (w1 := [(aM, .inr (5, [.ref aZ, .ref aPast, .int pastMany__6, .ref aKz, .int isKept, .ref aBuf, .int typed, .ref aStk, .ref aLaid, .int wid__2, .int hei__3, .ref aPcs, .ref aTold, .int toldMany, .int spot, .int wrong])), (aZ, .inl (cI, 207, .inl zz)), (aPast, .inl (cI, 1035, .inl past__7))]) hP hD [0, 1, 2] [3, 4] rfl rfl (by decide) (by decide) hk1 hFc hP1 hD1
    have hP := hP.sub (ws' := [(aM, .inr (5, [.ref aZ, .ref aPast, .int pastMany__6, .ref aKz, .int isKept, .ref aBuf, .int typed, .ref aStk, .ref aLaid, .int wid__2, .int hei__3, .ref aPcs, .ref aTold, .int toldMany, .int spot, .int wrong])), (aZ, .inl (cI, 207, .inl zz)), (aPast, .inl (cI, 1035, .inl past__7)), (aStk, .inl (cI, 64, .inl stk__4)), (aLaid, .inl (cI, 64, .inl laid__5))]) [2, 3, 4, 0, 1] rfl
    have hD := hD.sub (ws' := [(aM, .inr (5, [.ref aZ, .ref aPast, .int pastMany__6, .ref aKz, .int isKept, .ref aBuf, .int typed, .ref aStk, .ref aLaid, .int wid__2, .int hei__3, .ref aPcs, .ref aTold, .int toldMany, .int spot, .int wrong])), (aZ, .inl (cI, 207, .inl zz)), (aPast, .inl (cI, 1035, .inl past__7)), (aStk, .inl (cI, 64, .inl stk__4)), (aLaid, .inl (cI, 64, .inl laid__5))]) [2, 3, 4, 0, 1] (by decide) rfl
    generalize H1 = H at hP hS ⊢
    refine lv_aload_n hx hb dX6_fold_16 rfl (lv_at hl 1 rfl) ?_
    refine lv_iload_n hx hb dX6_fold_17 rfl (lv_at hl 2 rfl) ?_
    have hPc := hP.sub (ws' := [(aM, .inr (5, [.ref aZ, .ref aPast, .int pastMany__6, .ref aKz, .int isKept, .ref aBuf, .int typed, .ref aStk, .ref aLaid, .int wid__2, .int hei__3, .ref aPcs, .ref aTold, .int toldMany, .int spot, .int wrong])), (aZ, .inl (cI, 207, .inl zz)), (aStk, .inl (cI, 64, .inl stk__4)), (aLaid, .inl (cI, 64, .inl laid__5))]) [0, 1, 3, 4] rfl
    have hDc := hD.sub (ws' := [(aM, .inr (5, [.ref aZ, .ref aPast, .int pastMany__6, .ref aKz, .int isKept, .ref aBuf, .int typed, .ref aStk, .ref aLaid, .int wid__2, .int hei__3, .ref aPcs, .ref aTold, .int toldMany, .int spot, .int wrong])), (aZ, .inl (cI, 207, .inl zz)), (aStk, .inl (cI, 64, .inl stk__4)), (aLaid, .inl (cI, 64, .inl laid__5))]) [0, 1, 3, 4] (by decide) rfl
    have hFc := va_free (wc := [(aM, .inr (5, [.ref aZ, .ref aPast, .int pastMany__6, .ref aKz, .int isKept, .ref aBuf, .int typed, .ref aStk, .ref aLaid, .int wid__2, .int hei__3, .ref aPcs, .ref aTold, .int toldMany, .int spot, .int wrong])), (aZ, .inl (cI, 207, .inl zz)), (aStk, .inl (cI, 64, .inl stk__4)), (aLaid, .inl (cI, 64, .inl laid__5))]) hD hS hA [0, 1, 3, 4] rfl
    refine va_calli (va_runV (As := [.int x1]) (rest := []) ⟨hx, hb, hml, hown, hts⟩ (c_X6_folds l dC dI cI cC cS aM aZ aPast aKz aBuf aStk aLaid aPcs aTold _ pastMany__6 isKept typed wid__2 hei__3 toldMany spot wrong zz stk__4 laid__5 x1 hq) (cwV 1 hts gX6_fold_X6_folds rfl rfl rfl (by decide +kernel) ⟨Nat.le_of_ble_eq_true rfl, Nat.le_of_ble_eq_true rfl⟩) (gn_preV hPc hK hN hDc (ci := 5) (q0 := 0) rfl rfl) rfl rfl hl.1 rfl (lv_room (Nat.le_of_ble_eq_true rfl)) dX6_fold_18 ⟨Nat.zero_le _, Nat.zero_le _⟩) hS (fun q _ h => hFc q h) hFc (fun r_8 u t H1 locs ht hvm hq hB hz1 hk1 hS => ?_)
    obtain ⟨wid__9, hei__10, zz__11, stk__12, laid__13⟩ := u
    obtain ⟨hP1, hK1, hD1⟩ := hB
    rw [ht] at hP1
    try dsimp only at hq
    obtain ⟨hP, hD⟩ := va_join (wr := [(aPast, .inl (cI, 1035, .inl past__7))]) (w1 := [(aM, .inr (5, [.ref aZ, .ref aPast, .int pastMany__6, .ref aKz, .int isKept, .ref aBuf, .int typed, .ref aStk, .ref aLaid, .int wid__9, .int hei__10, .ref aPcs, .ref aTold, .int toldMany, .int spot, .int wrong])), (aZ, .inl (cI, 207, .inl zz__11)), (aStk, .inl (cI, 64, .inl stk__12)), (aLaid, .inl (cI, 64, .inl laid__13))]) hP hD [0, 1, 3, 4] [2] rfl rfl (by decide) (by decide) hk1 hFc hP1 hD1
    have hP := hP.sub (ws' := [(aM, .inr (5, [.ref aZ, .ref aPast, .int pastMany__6, .ref aKz, .int isKept, .ref aBuf, .int typed, .ref aStk, .ref aLaid, .int wid__9, .int hei__10, .ref aPcs, .ref aTold, .int toldMany, .int spot, .int wrong])), (aZ, .inl (cI, 207, .inl zz__11)), (aPast, .inl (cI, 1035, .inl past__7)), (aStk, .inl (cI, 64, .inl stk__12)), (aLaid, .inl (cI, 64, .inl laid__13))]) [1, 2, 0, 3, 4] rfl
    have hD := hD.sub (ws' := [(aM, .inr (5, [.ref aZ, .ref aPast, .int pastMany__6, .ref aKz, .int isKept, .ref aBuf, .int typed, .ref aStk, .ref aLaid, .int wid__9, .int hei__10, .ref aPcs, .ref aTold, .int toldMany, .int spot, .int wrong])), (aZ, .inl (cI, 207, .inl zz__11)), (aPast, .inl (cI, 1035, .inl past__7)), (aStk, .inl (cI, 64, .inl stk__12)), (aLaid, .inl (cI, 64, .inl laid__13))]) [1, 2, 0, 3, 4] (by decide) rfl
    generalize H1 = H at hP hS ⊢
    exact hret _ _ _ _ _ _ _ _ _ _ _ _ dX6_fold_21 hP hD hS hq
  · have hq := hq.2 hc
    refine lv_iload_n hx hb dX6_fold_10 rfl (lv_at hl 0 rfl) ?_
    exact hret _ _ _ _ _ _ _ _ _ _ _ _ dX6_fold_11 hP hD hS hq
set_option maxRecDepth 20000 in
theorem kwX6_unfolds_7 : Cond.fieldLink RX6 7 "PunchedFoldsModel" "z" "[I" ∈ wsX6_unfolds := by decide +kernel
set_option maxRecDepth 20000 in
theorem iwX6_unfolds_X6 : ∀ w ∈ wsX60, w ∈ wsX6_unfolds := by decide +kernel
set_option maxHeartbeats 4000000 in
set_option maxRecDepth 100000 in
theorem c_X6_unfolds (l : Launch) (dC : Nat → ClassId) (dI : Nat → Nat → Nat) (cI cC cS : ClassId) (aM : Nat) (aZ : Nat) (aPast : Nat) (aKz : Nat) (aBuf : Nat) (aStk : Nat) (aLaid : Nat) (aPcs : Nat) (aTold : Nat) (sz : Nat) (pastMany : Int32) (isKept : Int32) (typed : Int32) (wid : Int32) (hei : Int32) (toldMany : Int32) (spot : Int32) (wrong : Int32) (zz : Nat → Int32) {post : Int32 → (Nat → Int32) → Prop} (hq : wp_X6_unfolds zz post) : Met l yX6_unfolds wsX6_unfolds ({ frames := 0, cells := 0, slots := 0, locals := 0 } : Room) (gn_Pre (dC, dI) cI cC cS [.ref aM] sz [(aM, .inr (5, [.ref aZ, .ref aPast, .int pastMany, .ref aKz, .int isKept, .ref aBuf, .int typed, .ref aStk, .ref aLaid, .int wid, .int hei, .ref aPcs, .ref aTold, .int toldMany, .int spot, .int wrong])), (aZ, .inl (cI, 207, .inl zz))]) (va_Qi (fun (r : Int32) (u : (Nat → Int32)) => post r u) (fun (u : (Nat → Int32)) t => va_P (dC, dI) vwCl [(aM, .inr (5, [.ref aZ, .ref aPast, .int pastMany, .ref aKz, .int isKept, .ref aBuf, .int typed, .ref aStk, .ref aLaid, .int wid, .int hei, .ref aPcs, .ref aTold, .int toldMany, .int spot, .int wrong])), (aZ, .inl (cI, 207, .inl u))] t.heap ∧ va_K (dC, dI) vwCl (gn_tys cI cC cS) t ∧ va_D (va_A [(aM, .inr (5, [.ref aZ, .ref aPast, .int pastMany, .ref aKz, .int isKept, .ref aBuf, .int typed, .ref aStk, .ref aLaid, .int wid, .int hei, .ref aPcs, .ref aTold, .int toldMany, .int spot, .int wrong])), (aZ, .inl (cI, 207, .inl zz))] sz) [(aM, .inr (5, [.ref aZ, .ref aPast, .int pastMany, .ref aKz, .int isKept, .ref aBuf, .int typed, .ref aStk, .ref aLaid, .int wid, .int hei, .ref aPcs, .ref aTold, .int toldMany, .int spot, .int wrong])), (aZ, .inl (cI, 207, .inl u))]) (va_A [(aM, .inr (5, [.ref aZ, .ref aPast, .int pastMany, .ref aKz, .int isKept, .ref aBuf, .int typed, .ref aStk, .ref aLaid, .int wid, .int hei, .ref aPcs, .ref aTold, .int toldMany, .int spot, .int wrong])), (aZ, .inl (cI, 207, .inl zz))] sz)) 0 0 (va_A [(aM, .inr (5, [.ref aZ, .ref aPast, .int pastMany, .ref aKz, .int isKept, .ref aBuf, .int typed, .ref aStk, .ref aLaid, .int wid, .int hei, .ref aPcs, .ref aTold, .int toldMany, .int spot, .int wrong])), (aZ, .inl (cI, 207, .inl zz))] sz) := by
  unfold wp_X6_unfolds at hq
  refine Met.ofW (cc := cX6_unfolds) (maxL := 2) (ret := (some .int)) (by decide) rfl ?_
  intro p e s m args below meth c s₁ B hml hv
  obtain ⟨rfl, hsz, hP, hK, hN, hD0⟩ := hv
  have hx := B.exec
  have hb := B.bytes
  have hr := B.returns
  have hts := atoms_spec (ws := wsX6_unfolds) B.pre
  have hown : s.vm.findClass RX6 = some m.cls := findClass_of_methodNamed B.named
  have hlocks := B.notSynchronized
  subst hsz
  have hD := hD0.self (sz := s.heap.size)
  generalize hAe : va_A [(aM, .inr (5, [.ref aZ, .ref aPast, .int pastMany, .ref aKz, .int isKept, .ref aBuf, .int typed, .ref aStk, .ref aLaid, .int wid, .int hei, .ref aPcs, .ref aTold, .int toldMany, .int spot, .int wrong])), (aZ, .inl (cI, 207, .inl zz))] s.heap.size = A at hD ⊢
  have hA : ∀ q : Nat, s.heap.size ≤ q → A q := fun q h => by rw [← hAe]; exact Or.inr h
  have hS : va_S A s.heap s.heap [] := va_S.rf
  have hl := lv_entry ([.ref aM] : List Value) (n := 2) (Nat.le_of_ble_eq_true rfl)
  rw [lg_entry_eq]
  generalize (lg_sl ([.ref aM] : List Value) ++ List.replicate (2 - (lg_sl ([.ref aM] : List Value)).length) Slot.unset).toArray = ls at hl ⊢
  have hl : lv_has ls 2 [(0, .ref aM)] := hl
  refine gn_Q (hret := fun Q => ∀ (pc : Nat) (ls : Array Slot) (H : Heap) (locs : List Loc) (r : Int32) (m_zz : Nat → Int32), decode cX6_unfolds pc = .ok (.ireturn, 1) → va_P (dC, dI) vwCl [(aM, .inr (5, [.ref aZ, .ref aPast, .int pastMany, .ref aKz, .int isKept, .ref aBuf, .int typed, .ref aStk, .ref aLaid, .int wid, .int hei, .ref aPcs, .ref aTold, .int toldMany, .int spot, .int wrong])), (aZ, .inl (cI, 207, .inl m_zz))] H → va_D A [(aM, .inr (5, [.ref aZ, .ref aPast, .int pastMany, .ref aKz, .int isKept, .ref aBuf, .int typed, .ref aStk, .ref aLaid, .int wid, .int hei, .ref aPcs, .ref aTold, .int toldMany, .int spot, .int wrong])), (aZ, .inl (cI, 207, .inl m_zz))] → va_S A s.heap H locs → post r m_zz → W p l e ({ frames := 0, cells := 0, slots := 0, locals := 0 } : Room) s m ([.ref aM] : List Value).toArray below meth c H locs 0 0 Q (F0 m pc ls [.int r])) (fun Q hret => ?_) ?_
  rotate_left
  · intro pc ls H locs r m_zz hdg hP hD hS hpost
    exact W.iret (v := r) hx hb hr (fun t ht hW => ⟨⟨r, m_zz, rfl, hpost, by rw [ht]; exact hP, va_K.moved hW.alike hK, hD⟩, hS.F ht⟩) hS.2.2 hdg
  refine lv_aload_n hx hb dX6_unfolds_0 rfl (lv_at hl 0 rfl) ?_
  refine va_get (D := (dC, dI)) (ci := 5) (v := .ref aZ) (C := RX6) (T := TX6) (N := 16) hx hb hts iwX6_unfolds_X6 hown hK hP 0 rfl rfl 0 (by decide) (hts _ kwX6_unfolds_7) (fun _ h9 => h9) rfl dX6_unfolds_1 ?_
  refine lv_iconst (v := 0) hx hb dX6_unfolds_4 (by decide) ?_
  refine lv_dup2_11 hx hb dX6_unfolds_5 rfl rfl ?_
  have hin := hq.1
  have hq := hq.2
  refine va_iald hx hb hK hP 1 0 rfl rfl hin dX6_unfolds_6 ?_
  refine lv_iconst (v := 1) hx hb dX6_unfolds_7 (by decide) ?_
  refine lv_isub hx hb dX6_unfolds_8 ?_
  have hin := hq.1
  have hq := hq.2
  refine va_iast hx hb hK hP hD hS 1 0 rfl rfl hin dX6_unfolds_9 (fun H locs hP hD hS => ?_)
  have hP : va_P (dC, dI) vwCl [(aM, .inr (5, [.ref aZ, .ref aPast, .int pastMany, .ref aKz, .int isKept, .ref aBuf, .int typed, .ref aStk, .ref aLaid, .int wid, .int hei, .ref aPcs, .ref aTold, .int toldMany, .int spot, .int wrong])), (aZ, .inl (cI, 207, .inl (upd zz ((0 : Int32)).toNatClampNeg ((zz ((0 : Int32)).toNatClampNeg) - (1 : Int32)))))] H := hP
  have hD : va_D A [(aM, .inr (5, [.ref aZ, .ref aPast, .int pastMany, .ref aKz, .int isKept, .ref aBuf, .int typed, .ref aStk, .ref aLaid, .int wid, .int hei, .ref aPcs, .ref aTold, .int toldMany, .int spot, .int wrong])), (aZ, .inl (cI, 207, .inl (upd zz ((0 : Int32)).toNatClampNeg ((zz ((0 : Int32)).toNatClampNeg) - (1 : Int32)))))] := hD
  refine lv_aload_n hx hb dX6_unfolds_10 rfl (lv_at hl 0 rfl) ?_
  refine va_get (D := (dC, dI)) (ci := 5) (v := .ref aZ) (C := RX6) (T := TX6) (N := 16) hx hb hts iwX6_unfolds_X6 hown hK hP 0 rfl rfl 0 (by decide) (hts _ kwX6_unfolds_7) (fun _ h9 => h9) rfl dX6_unfolds_11 ?_
  refine lv_iconst (v := 1) hx hb dX6_unfolds_14 (by decide) ?_
  refine lv_aload_n hx hb dX6_unfolds_15 rfl (lv_at hl 0 rfl) ?_
  refine va_get (D := (dC, dI)) (ci := 5) (v := .ref aZ) (C := RX6) (T := TX6) (N := 16) hx hb hts iwX6_unfolds_X6 hown hK hP 0 rfl rfl 0 (by decide) (hts _ kwX6_unfolds_7) (fun _ h9 => h9) rfl dX6_unfolds_16 ?_
  refine lv_iconst (v := 0) hx hb dX6_unfolds_19 (by decide) ?_
  have hin := hq.1
  have hq := hq.2
  refine va_iald hx hb hK hP 1 0 rfl rfl hin dX6_unfolds_20 ?_
  refine lv_iadd hx hb dX6_unfolds_21 ?_
  have hin := hq.1
  have hq := hq.2
  refine va_iald hx hb hK hP 1 0 rfl rfl hin dX6_unfolds_22 ?_
  refine lv_topi (fun w1_1 ew1_1 => ?_)
  have hq := hq w1_1 ew1_1
  refine lv_istore_n (lv' := [(1, .int w1_1), (0, .ref aM)]) hx hb dX6_unfolds_23 rfl hl (by decide) rfl (fun ls hl => ?_)
  refine lv_aload_n hx hb dX6_unfolds_24 rfl (lv_at hl 1 rfl) ?_
  refine va_get (D := (dC, dI)) (ci := 5) (v := .ref aZ) (C := RX6) (T := TX6) (N := 16) hx hb hts iwX6_unfolds_X6 hown hK hP 0 rfl rfl 0 (by decide) (hts _ kwX6_unfolds_7) (fun _ h9 => h9) rfl dX6_unfolds_25 ?_
  refine lv_iconst (v := 1) hx hb dX6_unfolds_28 (by decide) ?_
  refine lv_aload_n hx hb dX6_unfolds_29 rfl (lv_at hl 1 rfl) ?_
  refine va_get (D := (dC, dI)) (ci := 5) (v := .ref aZ) (C := RX6) (T := TX6) (N := 16) hx hb hts iwX6_unfolds_X6 hown hK hP 0 rfl rfl 0 (by decide) (hts _ kwX6_unfolds_7) (fun _ h9 => h9) rfl dX6_unfolds_30 ?_
  refine lv_iconst (v := 0) hx hb dX6_unfolds_33 (by decide) ?_
  have hin := hq.1
  have hq := hq.2
  refine va_iald hx hb hK hP 1 0 rfl rfl hin dX6_unfolds_34 ?_
  refine lv_iadd hx hb dX6_unfolds_35 ?_
  refine lv_iconst (v := 0) hx hb dX6_unfolds_36 (by decide) ?_
  have hin := hq.1
  have hq := hq.2
  refine va_iast hx hb hK hP hD hS 1 0 rfl rfl hin dX6_unfolds_37 (fun H locs hP hD hS => ?_)
  have hP : va_P (dC, dI) vwCl [(aM, .inr (5, [.ref aZ, .ref aPast, .int pastMany, .ref aKz, .int isKept, .ref aBuf, .int typed, .ref aStk, .ref aLaid, .int wid, .int hei, .ref aPcs, .ref aTold, .int toldMany, .int spot, .int wrong])), (aZ, .inl (cI, 207, .inl (upd (upd zz ((0 : Int32)).toNatClampNeg ((zz ((0 : Int32)).toNatClampNeg) - (1 : Int32))) (((1 : Int32) + ((upd zz ((0 : Int32)).toNatClampNeg ((zz ((0 : Int32)).toNatClampNeg) - (1 : Int32))) ((0 : Int32)).toNatClampNeg))).toNatClampNeg (0 : Int32))))] H := hP
  have hD : va_D A [(aM, .inr (5, [.ref aZ, .ref aPast, .int pastMany, .ref aKz, .int isKept, .ref aBuf, .int typed, .ref aStk, .ref aLaid, .int wid, .int hei, .ref aPcs, .ref aTold, .int toldMany, .int spot, .int wrong])), (aZ, .inl (cI, 207, .inl (upd (upd zz ((0 : Int32)).toNatClampNeg ((zz ((0 : Int32)).toNatClampNeg) - (1 : Int32))) (((1 : Int32) + ((upd zz ((0 : Int32)).toNatClampNeg ((zz ((0 : Int32)).toNatClampNeg) - (1 : Int32))) ((0 : Int32)).toNatClampNeg))).toNatClampNeg (0 : Int32))))] := hD
  refine lv_iload_n hx hb dX6_unfolds_38 rfl (lv_at hl 0 rfl) ?_
  exact hret _ _ _ _ _ _ dX6_unfolds_39 hP hD hS hq
set_option maxRecDepth 20000 in
theorem kwX6_unfold_7 : Cond.fieldLink RX6 7 "PunchedFoldsModel" "z" "[I" ∈ wsX6_unfold := by decide +kernel
set_option maxRecDepth 20000 in
theorem iwX6_unfold_X6 : ∀ w ∈ wsX60, w ∈ wsX6_unfold := by decide +kernel
set_option maxHeartbeats 4000000 in
set_option maxRecDepth 100000 in
theorem c_X6_unfold (l : Launch) (dC : Nat → ClassId) (dI : Nat → Nat → Nat) (cI cC cS : ClassId) (aM : Nat) (aZ : Nat) (aPast : Nat) (aKz : Nat) (aBuf : Nat) (aStk : Nat) (aLaid : Nat) (aPcs : Nat) (aTold : Nat) (sz : Nat) (pastMany : Int32) (isKept : Int32) (typed : Int32) (wid : Int32) (hei : Int32) (toldMany : Int32) (spot : Int32) (wrong : Int32) (zz : Nat → Int32) (past : Nat → Int32) {post : Int32 → Int32 → (Nat → Int32) → (Nat → Int32) → Prop} (hq : wp_X6_unfold pastMany zz past post) : Met l yX6_unfold wsX6_unfold ({ frames := 1, cells := 0, slots := 0, locals := 21 } : Room) (gn_Pre (dC, dI) cI cC cS [.ref aM] sz [(aM, .inr (5, [.ref aZ, .ref aPast, .int pastMany, .ref aKz, .int isKept, .ref aBuf, .int typed, .ref aStk, .ref aLaid, .int wid, .int hei, .ref aPcs, .ref aTold, .int toldMany, .int spot, .int wrong])), (aZ, .inl (cI, 207, .inl zz)), (aPast, .inl (cI, 1035, .inl past))]) (va_Qi (fun (r : Int32) (u : Int32 × (Nat → Int32) × (Nat → Int32)) => post r u.1 u.2.1 u.2.2) (fun (u : Int32 × (Nat → Int32) × (Nat → Int32)) t => va_P (dC, dI) vwCl [(aM, .inr (5, [.ref aZ, .ref aPast, .int u.1, .ref aKz, .int isKept, .ref aBuf, .int typed, .ref aStk, .ref aLaid, .int wid, .int hei, .ref aPcs, .ref aTold, .int toldMany, .int spot, .int wrong])), (aZ, .inl (cI, 207, .inl u.2.1)), (aPast, .inl (cI, 1035, .inl u.2.2))] t.heap ∧ va_K (dC, dI) vwCl (gn_tys cI cC cS) t ∧ va_D (va_A [(aM, .inr (5, [.ref aZ, .ref aPast, .int pastMany, .ref aKz, .int isKept, .ref aBuf, .int typed, .ref aStk, .ref aLaid, .int wid, .int hei, .ref aPcs, .ref aTold, .int toldMany, .int spot, .int wrong])), (aZ, .inl (cI, 207, .inl zz)), (aPast, .inl (cI, 1035, .inl past))] sz) [(aM, .inr (5, [.ref aZ, .ref aPast, .int u.1, .ref aKz, .int isKept, .ref aBuf, .int typed, .ref aStk, .ref aLaid, .int wid, .int hei, .ref aPcs, .ref aTold, .int toldMany, .int spot, .int wrong])), (aZ, .inl (cI, 207, .inl u.2.1)), (aPast, .inl (cI, 1035, .inl u.2.2))]) (va_A [(aM, .inr (5, [.ref aZ, .ref aPast, .int pastMany, .ref aKz, .int isKept, .ref aBuf, .int typed, .ref aStk, .ref aLaid, .int wid, .int hei, .ref aPcs, .ref aTold, .int toldMany, .int spot, .int wrong])), (aZ, .inl (cI, 207, .inl zz)), (aPast, .inl (cI, 1035, .inl past))] sz)) 0 0 (va_A [(aM, .inr (5, [.ref aZ, .ref aPast, .int pastMany, .ref aKz, .int isKept, .ref aBuf, .int typed, .ref aStk, .ref aLaid, .int wid, .int hei, .ref aPcs, .ref aTold, .int toldMany, .int spot, .int wrong])), (aZ, .inl (cI, 207, .inl zz)), (aPast, .inl (cI, 1035, .inl past))] sz) := by
  unfold wp_X6_unfold at hq
  refine Met.ofW (cc := cX6_unfold) (maxL := 1) (ret := (some .int)) (by decide) rfl ?_
  intro p e s m args below meth c s₁ B hml hv
  obtain ⟨rfl, hsz, hP, hK, hN, hD0⟩ := hv
  have hx := B.exec
  have hb := B.bytes
  have hr := B.returns
  have hts := atoms_spec (ws := wsX6_unfold) B.pre
  have hown : s.vm.findClass RX6 = some m.cls := findClass_of_methodNamed B.named
  have hlocks := B.notSynchronized
  subst hsz
  have hD := hD0.self (sz := s.heap.size)
  generalize hAe : va_A [(aM, .inr (5, [.ref aZ, .ref aPast, .int pastMany, .ref aKz, .int isKept, .ref aBuf, .int typed, .ref aStk, .ref aLaid, .int wid, .int hei, .ref aPcs, .ref aTold, .int toldMany, .int spot, .int wrong])), (aZ, .inl (cI, 207, .inl zz)), (aPast, .inl (cI, 1035, .inl past))] s.heap.size = A at hD ⊢
  have hA : ∀ q : Nat, s.heap.size ≤ q → A q := fun q h => by rw [← hAe]; exact Or.inr h
  have hS : va_S A s.heap s.heap [] := va_S.rf
  have hl := lv_entry ([.ref aM] : List Value) (n := 1) (Nat.le_of_ble_eq_true rfl)
  rw [lg_entry_eq]
  generalize (lg_sl ([.ref aM] : List Value) ++ List.replicate (1 - (lg_sl ([.ref aM] : List Value)).length) Slot.unset).toArray = ls at hl ⊢
  have hl : lv_has ls 1 [(0, .ref aM)] := hl
  refine gn_Q (hret := fun Q => ∀ (pc : Nat) (ls : Array Slot) (H : Heap) (locs : List Loc) (r : Int32) (m_pastMany : Int32) (m_zz : Nat → Int32) (m_past : Nat → Int32), decode cX6_unfold pc = .ok (.ireturn, 1) → va_P (dC, dI) vwCl [(aM, .inr (5, [.ref aZ, .ref aPast, .int m_pastMany, .ref aKz, .int isKept, .ref aBuf, .int typed, .ref aStk, .ref aLaid, .int wid, .int hei, .ref aPcs, .ref aTold, .int toldMany, .int spot, .int wrong])), (aZ, .inl (cI, 207, .inl m_zz)), (aPast, .inl (cI, 1035, .inl m_past))] H → va_D A [(aM, .inr (5, [.ref aZ, .ref aPast, .int m_pastMany, .ref aKz, .int isKept, .ref aBuf, .int typed, .ref aStk, .ref aLaid, .int wid, .int hei, .ref aPcs, .ref aTold, .int toldMany, .int spot, .int wrong])), (aZ, .inl (cI, 207, .inl m_zz)), (aPast, .inl (cI, 1035, .inl m_past))] → va_S A s.heap H locs → post r m_pastMany m_zz m_past → W p l e ({ frames := 1, cells := 0, slots := 0, locals := 21 } : Room) s m ([.ref aM] : List Value).toArray below meth c H locs 0 0 Q (F0 m pc ls [.int r])) (fun Q hret => ?_) ?_
  rotate_left
  · intro pc ls H locs r m_pastMany m_zz m_past hdg hP hD hS hpost
    exact W.iret (v := r) hx hb hr (fun t ht hW => ⟨⟨r, (m_pastMany, m_zz, m_past), rfl, hpost, by rw [ht]; exact hP, va_K.moved hW.alike hK, hD⟩, hS.F ht⟩) hS.2.2 hdg
  refine lv_aload_n hx hb dX6_unfold_0 rfl (lv_at hl 0 rfl) ?_
  refine va_get (D := (dC, dI)) (ci := 5) (v := .ref aZ) (C := RX6) (T := TX6) (N := 16) hx hb hts iwX6_unfold_X6 hown hK hP 0 rfl rfl 0 (by decide) (hts _ kwX6_unfold_7) (fun _ h9 => h9) rfl dX6_unfold_1 ?_
  refine lv_iconst (v := 0) hx hb dX6_unfold_4 (by decide) ?_
  have hin := hq.1
  have hq := hq.2
  refine va_iald hx hb hK hP 1 0 rfl rfl hin dX6_unfold_5 ?_
  refine lv_if_ne (tgt := 12) hx hb dX6_unfold_6 (by decide) (fun hc => ?_) (fun hc => ?_)
  · have hq := hq.1 hc
    refine lv_aload_n hx hb dX6_unfold_12 rfl (lv_at hl 0 rfl) ?_
    have hPc := hP.sub (ws' := [(aM, .inr (5, [.ref aZ, .ref aPast, .int pastMany, .ref aKz, .int isKept, .ref aBuf, .int typed, .ref aStk, .ref aLaid, .int wid, .int hei, .ref aPcs, .ref aTold, .int toldMany, .int spot, .int wrong])), (aZ, .inl (cI, 207, .inl zz)), (aPast, .inl (cI, 1035, .inl past))]) [0, 1, 2] rfl
    have hDc := hD.sub (ws' := [(aM, .inr (5, [.ref aZ, .ref aPast, .int pastMany, .ref aKz, .int isKept, .ref aBuf, .int typed, .ref aStk, .ref aLaid, .int wid, .int hei, .ref aPcs, .ref aTold, .int toldMany, .int spot, .int wrong])), (aZ, .inl (cI, 207, .inl zz)), (aPast, .inl (cI, 1035, .inl past))]) [0, 1, 2] (by decide) rfl
    have hFc := va_free (wc := [(aM, .inr (5, [.ref aZ, .ref aPast, .int pastMany, .ref aKz, .int isKept, .ref aBuf, .int typed, .ref aStk, .ref aLaid, .int wid, .int hei, .ref aPcs, .ref aTold, .int toldMany, .int spot, .int wrong])), (aZ, .inl (cI, 207, .inl zz)), (aPast, .inl (cI, 1035, .inl past))]) hD hS hA [0, 1, 2] rfl
    refine va_callv (va_runV (As := []) (rest := []) ⟨hx, hb, hml, hown, hts⟩ (c_X6_record l dC dI cI cC cS aM aZ aPast aKz aBuf aStk aLaid aPcs aTold _ pastMany isKept typed wid hei toldMany spot wrong zz past hq) (cwV 0 hts gX6_unfold_X6_record rfl rfl rfl (by decide +kernel) ⟨Nat.le_of_ble_eq_true rfl, Nat.le_of_ble_eq_true rfl⟩) (gn_preV hPc hK hN hDc (ci := 5) (q0 := 0) rfl rfl) rfl rfl hl.1 rfl (lv_room (Nat.le_of_ble_eq_true rfl)) dX6_unfold_13 ⟨Nat.zero_le _, Nat.zero_le _⟩) hS (fun q _ h => hFc q h) hFc (fun u t H1 locs ht hvm hq hB hz1 hk1 hS => ?_)
    obtain ⟨pastMany__1, past__2⟩ := u
    obtain ⟨hP1, hK1, hD1⟩ := hB
    rw [ht] at hP1
    try dsimp only at hq
    obtain ⟨hP, hD⟩ := va_join (wr := []) (w1 := [(aM, .inr (5, [.ref aZ, .ref aPast, .int pastMany__1, .ref aKz, .int isKept, .ref aBuf, .int typed, .ref aStk, .ref aLaid, .int wid, .int hei, .ref aPcs, .ref aTold, .int toldMany, .int spot, .int wrong])), (aZ, .inl (cI, 207, .inl zz)), (aPast, .inl (cI, 1035, .inl past__2))]) hP hD [0, 1, 2] [] rfl rfl (by decide) (by decide) hk1 hFc hP1 hD1
    have hP := hP.sub (ws' := [(aM, .inr (5, [.ref aZ, .ref aPast, .int pastMany__1, .ref aKz, .int isKept, .ref aBuf, .int typed, .ref aStk, .ref aLaid, .int wid, .int hei, .ref aPcs, .ref aTold, .int toldMany, .int spot, .int wrong])), (aZ, .inl (cI, 207, .inl zz)), (aPast, .inl (cI, 1035, .inl past__2))]) [0, 1, 2] rfl
    have hD := hD.sub (ws' := [(aM, .inr (5, [.ref aZ, .ref aPast, .int pastMany__1, .ref aKz, .int isKept, .ref aBuf, .int typed, .ref aStk, .ref aLaid, .int wid, .int hei, .ref aPcs, .ref aTold, .int toldMany, .int spot, .int wrong])), (aZ, .inl (cI, 207, .inl zz)), (aPast, .inl (cI, 1035, .inl past__2))]) [0, 1, 2] (by decide) rfl
    generalize H1 = H at hP hS ⊢
    refine lv_aload_n hx hb dX6_unfold_16 rfl (lv_at hl 0 rfl) ?_
    have hPc := hP.sub (ws' := [(aM, .inr (5, [.ref aZ, .ref aPast, .int pastMany__1, .ref aKz, .int isKept, .ref aBuf, .int typed, .ref aStk, .ref aLaid, .int wid, .int hei, .ref aPcs, .ref aTold, .int toldMany, .int spot, .int wrong])), (aZ, .inl (cI, 207, .inl zz))]) [0, 1] rfl
    have hDc := hD.sub (ws' := [(aM, .inr (5, [.ref aZ, .ref aPast, .int pastMany__1, .ref aKz, .int isKept, .ref aBuf, .int typed, .ref aStk, .ref aLaid, .int wid, .int hei, .ref aPcs, .ref aTold, .int toldMany, .int spot, .int wrong])), (aZ, .inl (cI, 207, .inl zz))]) [0, 1] (by decide) rfl
    have hFc := va_free (wc := [(aM, .inr (5, [.ref aZ, .ref aPast, .int pastMany__1, .ref aKz, .int isKept, .ref aBuf, .int typed, .ref aStk, .ref aLaid, .int wid, .int hei, .ref aPcs, .ref aTold, .int toldMany, .int spot, .int wrong])), (aZ, .inl (cI, 207, .inl zz))]) hD hS hA [0, 1] rfl
    refine va_calli (va_runV (As := []) (rest := []) ⟨hx, hb, hml, hown, hts⟩ (c_X6_unfolds l dC dI cI cC cS aM aZ aPast aKz aBuf aStk aLaid aPcs aTold _ pastMany__1 isKept typed wid hei toldMany spot wrong zz hq) (cwV 0 hts gX6_unfold_X6_unfolds rfl rfl rfl (by decide +kernel) ⟨Nat.le_of_ble_eq_true rfl, Nat.le_of_ble_eq_true rfl⟩) (gn_preV hPc hK hN hDc (ci := 5) (q0 := 0) rfl rfl) rfl rfl hl.1 rfl (lv_room (Nat.le_of_ble_eq_true rfl)) dX6_unfold_17 ⟨Nat.zero_le _, Nat.zero_le _⟩) hS (fun q _ h => hFc q h) hFc (fun r_3 u t H1 locs ht hvm hq hB hz1 hk1 hS => ?_)
    obtain ⟨zz__4, rfl⟩ : ∃ z, z = u := ⟨_, rfl⟩
    obtain ⟨hP1, hK1, hD1⟩ := hB
    rw [ht] at hP1
    try dsimp only at hq
    obtain ⟨hP, hD⟩ := va_join (wr := [(aPast, .inl (cI, 1035, .inl past__2))]) (w1 := [(aM, .inr (5, [.ref aZ, .ref aPast, .int pastMany__1, .ref aKz, .int isKept, .ref aBuf, .int typed, .ref aStk, .ref aLaid, .int wid, .int hei, .ref aPcs, .ref aTold, .int toldMany, .int spot, .int wrong])), (aZ, .inl (cI, 207, .inl zz__4))]) hP hD [0, 1] [2] rfl rfl (by decide) (by decide) hk1 hFc hP1 hD1
    have hP := hP.sub (ws' := [(aM, .inr (5, [.ref aZ, .ref aPast, .int pastMany__1, .ref aKz, .int isKept, .ref aBuf, .int typed, .ref aStk, .ref aLaid, .int wid, .int hei, .ref aPcs, .ref aTold, .int toldMany, .int spot, .int wrong])), (aZ, .inl (cI, 207, .inl zz__4)), (aPast, .inl (cI, 1035, .inl past__2))]) [1, 2, 0] rfl
    have hD := hD.sub (ws' := [(aM, .inr (5, [.ref aZ, .ref aPast, .int pastMany__1, .ref aKz, .int isKept, .ref aBuf, .int typed, .ref aStk, .ref aLaid, .int wid, .int hei, .ref aPcs, .ref aTold, .int toldMany, .int spot, .int wrong])), (aZ, .inl (cI, 207, .inl zz__4)), (aPast, .inl (cI, 1035, .inl past__2))]) [1, 2, 0] (by decide) rfl
    generalize H1 = H at hP hS ⊢
    exact hret _ _ _ _ _ _ _ _ dX6_unfold_20 hP hD hS hq
  · have hq := hq.2 hc
    refine lv_bipush (v := -3) hx hb dX6_unfold_9 (by decide) ?_
    exact hret _ _ _ _ _ _ _ _ dX6_unfold_11 hP hD hS hq
set_option maxRecDepth 20000 in
theorem kwX6_open_7 : Cond.fieldLink RX6 7 "PunchedFoldsModel" "z" "[I" ∈ wsX6_open := by decide +kernel
set_option maxRecDepth 20000 in
theorem iwX6_open_X6 : ∀ w ∈ wsX60, w ∈ wsX6_open := by decide +kernel
set_option maxHeartbeats 4000000 in
set_option maxRecDepth 100000 in
theorem c_X6_open (l : Launch) (dC : Nat → ClassId) (dI : Nat → Nat → Nat) (cI cC cS : ClassId) (aM : Nat) (aZ : Nat) (aPast : Nat) (aKz : Nat) (aBuf : Nat) (aStk : Nat) (aLaid : Nat) (aPcs : Nat) (aTold : Nat) (sz : Nat) (pastMany : Int32) (isKept : Int32) (typed : Int32) (wid : Int32) (hei : Int32) (toldMany : Int32) (spot : Int32) (wrong : Int32) (zz : Nat → Int32) (past : Nat → Int32) {post : Int32 → Int32 → (Nat → Int32) → (Nat → Int32) → Prop} (hq : wp_X6_open pastMany zz past post) : Met l yX6_open wsX6_open ({ frames := 1, cells := 0, slots := 0, locals := 21 } : Room) (gn_Pre (dC, dI) cI cC cS [.ref aM] sz [(aM, .inr (5, [.ref aZ, .ref aPast, .int pastMany, .ref aKz, .int isKept, .ref aBuf, .int typed, .ref aStk, .ref aLaid, .int wid, .int hei, .ref aPcs, .ref aTold, .int toldMany, .int spot, .int wrong])), (aZ, .inl (cI, 207, .inl zz)), (aPast, .inl (cI, 1035, .inl past))]) (va_Qi (fun (r : Int32) (u : Int32 × (Nat → Int32) × (Nat → Int32)) => post r u.1 u.2.1 u.2.2) (fun (u : Int32 × (Nat → Int32) × (Nat → Int32)) t => va_P (dC, dI) vwCl [(aM, .inr (5, [.ref aZ, .ref aPast, .int u.1, .ref aKz, .int isKept, .ref aBuf, .int typed, .ref aStk, .ref aLaid, .int wid, .int hei, .ref aPcs, .ref aTold, .int toldMany, .int spot, .int wrong])), (aZ, .inl (cI, 207, .inl u.2.1)), (aPast, .inl (cI, 1035, .inl u.2.2))] t.heap ∧ va_K (dC, dI) vwCl (gn_tys cI cC cS) t ∧ va_D (va_A [(aM, .inr (5, [.ref aZ, .ref aPast, .int pastMany, .ref aKz, .int isKept, .ref aBuf, .int typed, .ref aStk, .ref aLaid, .int wid, .int hei, .ref aPcs, .ref aTold, .int toldMany, .int spot, .int wrong])), (aZ, .inl (cI, 207, .inl zz)), (aPast, .inl (cI, 1035, .inl past))] sz) [(aM, .inr (5, [.ref aZ, .ref aPast, .int u.1, .ref aKz, .int isKept, .ref aBuf, .int typed, .ref aStk, .ref aLaid, .int wid, .int hei, .ref aPcs, .ref aTold, .int toldMany, .int spot, .int wrong])), (aZ, .inl (cI, 207, .inl u.2.1)), (aPast, .inl (cI, 1035, .inl u.2.2))]) (va_A [(aM, .inr (5, [.ref aZ, .ref aPast, .int pastMany, .ref aKz, .int isKept, .ref aBuf, .int typed, .ref aStk, .ref aLaid, .int wid, .int hei, .ref aPcs, .ref aTold, .int toldMany, .int spot, .int wrong])), (aZ, .inl (cI, 207, .inl zz)), (aPast, .inl (cI, 1035, .inl past))] sz)) 0 0 (va_A [(aM, .inr (5, [.ref aZ, .ref aPast, .int pastMany, .ref aKz, .int isKept, .ref aBuf, .int typed, .ref aStk, .ref aLaid, .int wid, .int hei, .ref aPcs, .ref aTold, .int toldMany, .int spot, .int wrong])), (aZ, .inl (cI, 207, .inl zz)), (aPast, .inl (cI, 1035, .inl past))] sz) := by
  unfold wp_X6_open at hq
  refine Met.ofW (cc := cX6_open) (maxL := 2) (ret := (some .int)) (by decide) rfl ?_
  intro p e s m args below meth c s₁ B hml hv
  obtain ⟨rfl, hsz, hP, hK, hN, hD0⟩ := hv
  have hx := B.exec
  have hb := B.bytes
  have hr := B.returns
  have hts := atoms_spec (ws := wsX6_open) B.pre
  have hown : s.vm.findClass RX6 = some m.cls := findClass_of_methodNamed B.named
  have hlocks := B.notSynchronized
  subst hsz
  have hD := hD0.self (sz := s.heap.size)
  generalize hAe : va_A [(aM, .inr (5, [.ref aZ, .ref aPast, .int pastMany, .ref aKz, .int isKept, .ref aBuf, .int typed, .ref aStk, .ref aLaid, .int wid, .int hei, .ref aPcs, .ref aTold, .int toldMany, .int spot, .int wrong])), (aZ, .inl (cI, 207, .inl zz)), (aPast, .inl (cI, 1035, .inl past))] s.heap.size = A at hD ⊢
  have hA : ∀ q : Nat, s.heap.size ≤ q → A q := fun q h => by rw [← hAe]; exact Or.inr h
  have hS : va_S A s.heap s.heap [] := va_S.rf
  have hl := lv_entry ([.ref aM] : List Value) (n := 2) (Nat.le_of_ble_eq_true rfl)
  rw [lg_entry_eq]
  generalize (lg_sl ([.ref aM] : List Value) ++ List.replicate (2 - (lg_sl ([.ref aM] : List Value)).length) Slot.unset).toArray = ls at hl ⊢
  have hl : lv_has ls 2 [(0, .ref aM)] := hl
  refine gn_Q (hret := fun Q => ∀ (pc : Nat) (ls : Array Slot) (H : Heap) (locs : List Loc) (r : Int32) (m_pastMany : Int32) (m_zz : Nat → Int32) (m_past : Nat → Int32), decode cX6_open pc = .ok (.ireturn, 1) → va_P (dC, dI) vwCl [(aM, .inr (5, [.ref aZ, .ref aPast, .int m_pastMany, .ref aKz, .int isKept, .ref aBuf, .int typed, .ref aStk, .ref aLaid, .int wid, .int hei, .ref aPcs, .ref aTold, .int toldMany, .int spot, .int wrong])), (aZ, .inl (cI, 207, .inl m_zz)), (aPast, .inl (cI, 1035, .inl m_past))] H → va_D A [(aM, .inr (5, [.ref aZ, .ref aPast, .int m_pastMany, .ref aKz, .int isKept, .ref aBuf, .int typed, .ref aStk, .ref aLaid, .int wid, .int hei, .ref aPcs, .ref aTold, .int toldMany, .int spot, .int wrong])), (aZ, .inl (cI, 207, .inl m_zz)), (aPast, .inl (cI, 1035, .inl m_past))] → va_S A s.heap H locs → post r m_pastMany m_zz m_past → W p l e ({ frames := 1, cells := 0, slots := 0, locals := 21 } : Room) s m ([.ref aM] : List Value).toArray below meth c H locs 0 0 Q (F0 m pc ls [.int r])) (fun Q hret => ?_) ?_
  rotate_left
  · intro pc ls H locs r m_pastMany m_zz m_past hdg hP hD hS hpost
    exact W.iret (v := r) hx hb hr (fun t ht hW => ⟨⟨r, (m_pastMany, m_zz, m_past), rfl, hpost, by rw [ht]; exact hP, va_K.moved hW.alike hK, hD⟩, hS.F ht⟩) hS.2.2 hdg
  refine lv_aload_n hx hb dX6_open_0 rfl (lv_at hl 0 rfl) ?_
  have hPc := hP.sub (ws' := [(aM, .inr (5, [.ref aZ, .ref aPast, .int pastMany, .ref aKz, .int isKept, .ref aBuf, .int typed, .ref aStk, .ref aLaid, .int wid, .int hei, .ref aPcs, .ref aTold, .int toldMany, .int spot, .int wrong])), (aZ, .inl (cI, 207, .inl zz)), (aPast, .inl (cI, 1035, .inl past))]) [0, 1, 2] rfl
  have hDc := hD.sub (ws' := [(aM, .inr (5, [.ref aZ, .ref aPast, .int pastMany, .ref aKz, .int isKept, .ref aBuf, .int typed, .ref aStk, .ref aLaid, .int wid, .int hei, .ref aPcs, .ref aTold, .int toldMany, .int spot, .int wrong])), (aZ, .inl (cI, 207, .inl zz)), (aPast, .inl (cI, 1035, .inl past))]) [0, 1, 2] (by decide) rfl
  have hFc := va_free (wc := [(aM, .inr (5, [.ref aZ, .ref aPast, .int pastMany, .ref aKz, .int isKept, .ref aBuf, .int typed, .ref aStk, .ref aLaid, .int wid, .int hei, .ref aPcs, .ref aTold, .int toldMany, .int spot, .int wrong])), (aZ, .inl (cI, 207, .inl zz)), (aPast, .inl (cI, 1035, .inl past))]) hD hS hA [0, 1, 2] rfl
  refine va_callv (va_runV (As := []) (rest := []) ⟨hx, hb, hml, hown, hts⟩ (c_X6_record l dC dI cI cC cS aM aZ aPast aKz aBuf aStk aLaid aPcs aTold _ pastMany isKept typed wid hei toldMany spot wrong zz past hq) (cwV 0 hts gX6_open_X6_record rfl rfl rfl (by decide +kernel) ⟨Nat.le_of_ble_eq_true rfl, Nat.le_of_ble_eq_true rfl⟩) (gn_preV hPc hK hN hDc (ci := 5) (q0 := 0) rfl rfl) rfl rfl hl.1 rfl (lv_room (Nat.le_of_ble_eq_true rfl)) dX6_open_1 ⟨Nat.zero_le _, Nat.zero_le _⟩) hS (fun q _ h => hFc q h) hFc (fun u t H1 locs ht hvm hq hB hz1 hk1 hS => ?_)
  obtain ⟨pastMany__1, past__2⟩ := u
  obtain ⟨hP1, hK1, hD1⟩ := hB
  rw [ht] at hP1
  try dsimp only at hq
  obtain ⟨hP, hD⟩ := va_join (wr := []) (w1 := [(aM, .inr (5, [.ref aZ, .ref aPast, .int pastMany__1, .ref aKz, .int isKept, .ref aBuf, .int typed, .ref aStk, .ref aLaid, .int wid, .int hei, .ref aPcs, .ref aTold, .int toldMany, .int spot, .int wrong])), (aZ, .inl (cI, 207, .inl zz)), (aPast, .inl (cI, 1035, .inl past__2))]) hP hD [0, 1, 2] [] rfl rfl (by decide) (by decide) hk1 hFc hP1 hD1
  have hP := hP.sub (ws' := [(aM, .inr (5, [.ref aZ, .ref aPast, .int pastMany__1, .ref aKz, .int isKept, .ref aBuf, .int typed, .ref aStk, .ref aLaid, .int wid, .int hei, .ref aPcs, .ref aTold, .int toldMany, .int spot, .int wrong])), (aZ, .inl (cI, 207, .inl zz)), (aPast, .inl (cI, 1035, .inl past__2))]) [0, 1, 2] rfl
  have hD := hD.sub (ws' := [(aM, .inr (5, [.ref aZ, .ref aPast, .int pastMany__1, .ref aKz, .int isKept, .ref aBuf, .int typed, .ref aStk, .ref aLaid, .int wid, .int hei, .ref aPcs, .ref aTold, .int toldMany, .int spot, .int wrong])), (aZ, .inl (cI, 207, .inl zz)), (aPast, .inl (cI, 1035, .inl past__2))]) [0, 1, 2] (by decide) rfl
  generalize H1 = H at hP hS ⊢
  refine lv_aload_n hx hb dX6_open_4 rfl (lv_at hl 0 rfl) ?_
  refine va_get (D := (dC, dI)) (ci := 5) (v := .ref aZ) (C := RX6) (T := TX6) (N := 16) hx hb hts iwX6_open_X6 hown hK hP 0 rfl rfl 0 (by decide) (hts _ kwX6_open_7) (fun _ h9 => h9) rfl dX6_open_5 ?_
  refine lv_iconst (v := 0) hx hb dX6_open_8 (by decide) ?_
  have hin := hq.1
  have hq := hq.2
  refine va_iald hx hb hK hP 1 0 rfl rfl hin dX6_open_9 ?_
  refine lv_topi (fun w1_3 ew1_3 => ?_)
  have hq := hq w1_3 ew1_3
  refine lv_istore_n (lv' := [(1, .int w1_3), (0, .ref aM)]) hx hb dX6_open_10 rfl hl (by decide) rfl (fun ls hl => ?_)
  have hq := hq (fun (zz__4 : Nat → Int32) => ∀ (H : Heap) (locs : List Loc) (ls : Array Slot), va_P (dC, dI) vwCl [(aM, .inr (5, [.ref aZ, .ref aPast, .int pastMany__1, .ref aKz, .int isKept, .ref aBuf, .int typed, .ref aStk, .ref aLaid, .int wid, .int hei, .ref aPcs, .ref aTold, .int toldMany, .int spot, .int wrong])), (aZ, .inl (cI, 207, .inl zz__4)), (aPast, .inl (cI, 1035, .inl past__2))] H → va_D A [(aM, .inr (5, [.ref aZ, .ref aPast, .int pastMany__1, .ref aKz, .int isKept, .ref aBuf, .int typed, .ref aStk, .ref aLaid, .int wid, .int hei, .ref aPcs, .ref aTold, .int toldMany, .int spot, .int wrong])), (aZ, .inl (cI, 207, .inl zz__4)), (aPast, .inl (cI, 1035, .inl past__2))] → va_S A s.heap H locs → lv_has ls 2 [(0, .ref aM), (1, .int w1_3)] → W p l e ({ frames := 1, cells := 0, slots := 0, locals := 21 } : Room) s m ([.ref aM] : List Value).toArray below meth c H locs 0 0 Q (F0 m 11 ls [])) (by
    intro zz__4 hq H locs ls hP hD hS hl
    refine lv_aload_n hx hb dX6_open_11 rfl (lv_at hl 0 rfl) ?_
    refine va_get (D := (dC, dI)) (ci := 5) (v := .ref aZ) (C := RX6) (T := TX6) (N := 16) hx hb hts iwX6_open_X6 hown hK hP 0 rfl rfl 0 (by decide) (hts _ kwX6_open_7) (fun _ h9 => h9) rfl dX6_open_12 ?_
    refine lv_iconst (v := 0) hx hb dX6_open_15 (by decide) ?_
    have hin := hq.1
    have hq := hq.2
    refine va_iald hx hb hK hP 1 0 rfl rfl hin dX6_open_16 ?_
    refine lv_if_le (tgt := 28) hx hb dX6_open_17 (by decide) (fun hc => ?_) (fun hc => ?_)
    · have hq := hq.1 hc
      refine lv_iload_n hx hb dX6_open_28 rfl (lv_at hl 1 rfl) ?_
      exact hret _ _ _ _ _ _ _ _ dX6_open_29 hP hD hS hq
    · have hq := hq.2 hc
      refine lv_aload_n hx hb dX6_open_20 rfl (lv_at hl 0 rfl) ?_
      have hPc := hP.sub (ws' := [(aM, .inr (5, [.ref aZ, .ref aPast, .int pastMany__1, .ref aKz, .int isKept, .ref aBuf, .int typed, .ref aStk, .ref aLaid, .int wid, .int hei, .ref aPcs, .ref aTold, .int toldMany, .int spot, .int wrong])), (aZ, .inl (cI, 207, .inl zz__4))]) [0, 1] rfl
      have hDc := hD.sub (ws' := [(aM, .inr (5, [.ref aZ, .ref aPast, .int pastMany__1, .ref aKz, .int isKept, .ref aBuf, .int typed, .ref aStk, .ref aLaid, .int wid, .int hei, .ref aPcs, .ref aTold, .int toldMany, .int spot, .int wrong])), (aZ, .inl (cI, 207, .inl zz__4))]) [0, 1] (by decide) rfl
      have hFc := va_free (wc := [(aM, .inr (5, [.ref aZ, .ref aPast, .int pastMany__1, .ref aKz, .int isKept, .ref aBuf, .int typed, .ref aStk, .ref aLaid, .int wid, .int hei, .ref aPcs, .ref aTold, .int toldMany, .int spot, .int wrong])), (aZ, .inl (cI, 207, .inl zz__4))]) hD hS hA [0, 1] rfl
      refine va_calli (va_runV (As := []) (rest := []) ⟨hx, hb, hml, hown, hts⟩ (c_X6_unfolds l dC dI cI cC cS aM aZ aPast aKz aBuf aStk aLaid aPcs aTold _ pastMany__1 isKept typed wid hei toldMany spot wrong zz__4 hq) (cwV 0 hts gX6_open_X6_unfolds rfl rfl rfl (by decide +kernel) ⟨Nat.le_of_ble_eq_true rfl, Nat.le_of_ble_eq_true rfl⟩) (gn_preV hPc hK hN hDc (ci := 5) (q0 := 0) rfl rfl) rfl rfl hl.1 rfl (lv_room (Nat.le_of_ble_eq_true rfl)) dX6_open_21 ⟨Nat.zero_le _, Nat.zero_le _⟩) hS (fun q _ h => hFc q h) hFc (fun r_5 u t H1 locs ht hvm hq hB hz1 hk1 hS => ?_)
      obtain ⟨zz__6, rfl⟩ : ∃ z, z = u := ⟨_, rfl⟩
      obtain ⟨hP1, hK1, hD1⟩ := hB
      rw [ht] at hP1
      try dsimp only at hq
      obtain ⟨hP, hD⟩ := va_join (wr := [(aPast, .inl (cI, 1035, .inl past__2))]) (w1 := [(aM, .inr (5, [.ref aZ, .ref aPast, .int pastMany__1, .ref aKz, .int isKept, .ref aBuf, .int typed, .ref aStk, .ref aLaid, .int wid, .int hei, .ref aPcs, .ref aTold, .int toldMany, .int spot, .int wrong])), (aZ, .inl (cI, 207, .inl zz__6))]) hP hD [0, 1] [2] rfl rfl (by decide) (by decide) hk1 hFc hP1 hD1
      have hP := hP.sub (ws' := [(aM, .inr (5, [.ref aZ, .ref aPast, .int pastMany__1, .ref aKz, .int isKept, .ref aBuf, .int typed, .ref aStk, .ref aLaid, .int wid, .int hei, .ref aPcs, .ref aTold, .int toldMany, .int spot, .int wrong])), (aZ, .inl (cI, 207, .inl zz__6)), (aPast, .inl (cI, 1035, .inl past__2))]) [1, 2, 0] rfl
      have hD := hD.sub (ws' := [(aM, .inr (5, [.ref aZ, .ref aPast, .int pastMany__1, .ref aKz, .int isKept, .ref aBuf, .int typed, .ref aStk, .ref aLaid, .int wid, .int hei, .ref aPcs, .ref aTold, .int toldMany, .int spot, .int wrong])), (aZ, .inl (cI, 207, .inl zz__6)), (aPast, .inl (cI, 1035, .inl past__2))]) [1, 2, 0] (by decide) rfl
      generalize H1 = H at hP hS ⊢
      refine lv_pop hx hb dX6_open_24 rfl ?_
      refine lv_goto (tgt := 11) hx hb dX6_open_25 (by decide) ?_
      exact hq _ _ _ hP hD hS (lv_sub hl [0, 1] rfl))
  exact hq _ _ _ hP hD hS (lv_sub hl [1, 0] rfl)
set_option maxRecDepth 20000 in
theorem kwX6_size_46 : Cond.fieldLink RX6 46 "PunchedFoldsModel" "width" "I" ∈ wsX6_size := by decide +kernel
set_option maxRecDepth 20000 in
theorem iwX6_size_X6 : ∀ w ∈ wsX60, w ∈ wsX6_size := by decide +kernel
set_option maxRecDepth 20000 in
theorem kwX6_size_49 : Cond.fieldLink RX6 49 "PunchedFoldsModel" "height" "I" ∈ wsX6_size := by decide +kernel
set_option maxRecDepth 20000 in
theorem kwX6_size_7 : Cond.fieldLink RX6 7 "PunchedFoldsModel" "z" "[I" ∈ wsX6_size := by decide +kernel
set_option maxHeartbeats 4000000 in
set_option maxRecDepth 100000 in
theorem c_X6_size (l : Launch) (dC : Nat → ClassId) (dI : Nat → Nat → Nat) (cI cC cS : ClassId) (aM : Nat) (aZ : Nat) (aPast : Nat) (aKz : Nat) (aBuf : Nat) (aStk : Nat) (aLaid : Nat) (aPcs : Nat) (aTold : Nat) (sz : Nat) (pastMany : Int32) (isKept : Int32) (typed : Int32) (wid : Int32) (hei : Int32) (toldMany : Int32) (spot : Int32) (wrong : Int32) (zz : Nat → Int32) (stk : Nat → Int32) (laid : Nat → Int32) (x1 : Int32) {post : Int32 → Int32 → Int32 → (Nat → Int32) → (Nat → Int32) → Prop} (hq : wp_X6_size wid hei zz stk laid x1 post) : Met l yX6_size wsX6_size ({ frames := 4, cells := 0, slots := 0, locals := 94 } : Room) (gn_Pre (dC, dI) cI cC cS [.ref aM, .int x1] sz [(aM, .inr (5, [.ref aZ, .ref aPast, .int pastMany, .ref aKz, .int isKept, .ref aBuf, .int typed, .ref aStk, .ref aLaid, .int wid, .int hei, .ref aPcs, .ref aTold, .int toldMany, .int spot, .int wrong])), (aZ, .inl (cI, 207, .inl zz)), (aStk, .inl (cI, 64, .inl stk)), (aLaid, .inl (cI, 64, .inl laid))]) (va_Qi (fun (r : Int32) (u : Int32 × Int32 × (Nat → Int32) × (Nat → Int32)) => post r u.1 u.2.1 u.2.2.1 u.2.2.2) (fun (u : Int32 × Int32 × (Nat → Int32) × (Nat → Int32)) t => va_P (dC, dI) vwCl [(aM, .inr (5, [.ref aZ, .ref aPast, .int pastMany, .ref aKz, .int isKept, .ref aBuf, .int typed, .ref aStk, .ref aLaid, .int u.1, .int u.2.1, .ref aPcs, .ref aTold, .int toldMany, .int spot, .int wrong])), (aZ, .inl (cI, 207, .inl zz)), (aStk, .inl (cI, 64, .inl u.2.2.1)), (aLaid, .inl (cI, 64, .inl u.2.2.2))] t.heap ∧ va_K (dC, dI) vwCl (gn_tys cI cC cS) t ∧ va_D (va_A [(aM, .inr (5, [.ref aZ, .ref aPast, .int pastMany, .ref aKz, .int isKept, .ref aBuf, .int typed, .ref aStk, .ref aLaid, .int wid, .int hei, .ref aPcs, .ref aTold, .int toldMany, .int spot, .int wrong])), (aZ, .inl (cI, 207, .inl zz)), (aStk, .inl (cI, 64, .inl stk)), (aLaid, .inl (cI, 64, .inl laid))] sz) [(aM, .inr (5, [.ref aZ, .ref aPast, .int pastMany, .ref aKz, .int isKept, .ref aBuf, .int typed, .ref aStk, .ref aLaid, .int u.1, .int u.2.1, .ref aPcs, .ref aTold, .int toldMany, .int spot, .int wrong])), (aZ, .inl (cI, 207, .inl zz)), (aStk, .inl (cI, 64, .inl u.2.2.1)), (aLaid, .inl (cI, 64, .inl u.2.2.2))]) (va_A [(aM, .inr (5, [.ref aZ, .ref aPast, .int pastMany, .ref aKz, .int isKept, .ref aBuf, .int typed, .ref aStk, .ref aLaid, .int wid, .int hei, .ref aPcs, .ref aTold, .int toldMany, .int spot, .int wrong])), (aZ, .inl (cI, 207, .inl zz)), (aStk, .inl (cI, 64, .inl stk)), (aLaid, .inl (cI, 64, .inl laid))] sz)) 0 0 (va_A [(aM, .inr (5, [.ref aZ, .ref aPast, .int pastMany, .ref aKz, .int isKept, .ref aBuf, .int typed, .ref aStk, .ref aLaid, .int wid, .int hei, .ref aPcs, .ref aTold, .int toldMany, .int spot, .int wrong])), (aZ, .inl (cI, 207, .inl zz)), (aStk, .inl (cI, 64, .inl stk)), (aLaid, .inl (cI, 64, .inl laid))] sz) := by
  unfold wp_X6_size at hq
  refine Met.ofW (cc := cX6_size) (maxL := 2) (ret := (some .int)) (by decide) rfl ?_
  intro p e s m args below meth c s₁ B hml hv
  obtain ⟨rfl, hsz, hP, hK, hN, hD0⟩ := hv
  have hx := B.exec
  have hb := B.bytes
  have hr := B.returns
  have hts := atoms_spec (ws := wsX6_size) B.pre
  have hown : s.vm.findClass RX6 = some m.cls := findClass_of_methodNamed B.named
  have hlocks := B.notSynchronized
  subst hsz
  have hD := hD0.self (sz := s.heap.size)
  generalize hAe : va_A [(aM, .inr (5, [.ref aZ, .ref aPast, .int pastMany, .ref aKz, .int isKept, .ref aBuf, .int typed, .ref aStk, .ref aLaid, .int wid, .int hei, .ref aPcs, .ref aTold, .int toldMany, .int spot, .int wrong])), (aZ, .inl (cI, 207, .inl zz)), (aStk, .inl (cI, 64, .inl stk)), (aLaid, .inl (cI, 64, .inl laid))] s.heap.size = A at hD ⊢
  have hA : ∀ q : Nat, s.heap.size ≤ q → A q := fun q h => by rw [← hAe]; exact Or.inr h
  have hS : va_S A s.heap s.heap [] := va_S.rf
  have hl := lv_entry ([.ref aM, .int x1] : List Value) (n := 2) (Nat.le_of_ble_eq_true rfl)
  rw [lg_entry_eq]
  generalize (lg_sl ([.ref aM, .int x1] : List Value) ++ List.replicate (2 - (lg_sl ([.ref aM, .int x1] : List Value)).length) Slot.unset).toArray = ls at hl ⊢
  have hl : lv_has ls 2 [(0, .ref aM), (1, .int x1)] := hl
  refine gn_Q (hret := fun Q => ∀ (pc : Nat) (ls : Array Slot) (H : Heap) (locs : List Loc) (r : Int32) (m_wid : Int32) (m_hei : Int32) (m_stk : Nat → Int32) (m_laid : Nat → Int32), decode cX6_size pc = .ok (.ireturn, 1) → va_P (dC, dI) vwCl [(aM, .inr (5, [.ref aZ, .ref aPast, .int pastMany, .ref aKz, .int isKept, .ref aBuf, .int typed, .ref aStk, .ref aLaid, .int m_wid, .int m_hei, .ref aPcs, .ref aTold, .int toldMany, .int spot, .int wrong])), (aZ, .inl (cI, 207, .inl zz)), (aStk, .inl (cI, 64, .inl m_stk)), (aLaid, .inl (cI, 64, .inl m_laid))] H → va_D A [(aM, .inr (5, [.ref aZ, .ref aPast, .int pastMany, .ref aKz, .int isKept, .ref aBuf, .int typed, .ref aStk, .ref aLaid, .int m_wid, .int m_hei, .ref aPcs, .ref aTold, .int toldMany, .int spot, .int wrong])), (aZ, .inl (cI, 207, .inl zz)), (aStk, .inl (cI, 64, .inl m_stk)), (aLaid, .inl (cI, 64, .inl m_laid))] → va_S A s.heap H locs → post r m_wid m_hei m_stk m_laid → W p l e ({ frames := 4, cells := 0, slots := 0, locals := 94 } : Room) s m ([.ref aM, .int x1] : List Value).toArray below meth c H locs 0 0 Q (F0 m pc ls [.int r])) (fun Q hret => ?_) ?_
  rotate_left
  · intro pc ls H locs r m_wid m_hei m_stk m_laid hdg hP hD hS hpost
    exact W.iret (v := r) hx hb hr (fun t ht hW => ⟨⟨r, (m_wid, m_hei, m_stk, m_laid), rfl, hpost, by rw [ht]; exact hP, va_K.moved hW.alike hK, hD⟩, hS.F ht⟩) hS.2.2 hdg
  refine lv_aload_n hx hb dX6_size_0 rfl (lv_at hl 0 rfl) ?_
  have hPc := hP.sub (ws' := [(aM, .inr (5, [.ref aZ, .ref aPast, .int pastMany, .ref aKz, .int isKept, .ref aBuf, .int typed, .ref aStk, .ref aLaid, .int wid, .int hei, .ref aPcs, .ref aTold, .int toldMany, .int spot, .int wrong])), (aZ, .inl (cI, 207, .inl zz)), (aStk, .inl (cI, 64, .inl stk)), (aLaid, .inl (cI, 64, .inl laid))]) [0, 1, 2, 3] rfl
  have hDc := hD.sub (ws' := [(aM, .inr (5, [.ref aZ, .ref aPast, .int pastMany, .ref aKz, .int isKept, .ref aBuf, .int typed, .ref aStk, .ref aLaid, .int wid, .int hei, .ref aPcs, .ref aTold, .int toldMany, .int spot, .int wrong])), (aZ, .inl (cI, 207, .inl zz)), (aStk, .inl (cI, 64, .inl stk)), (aLaid, .inl (cI, 64, .inl laid))]) [0, 1, 2, 3] (by decide) rfl
  have hFc := va_free (wc := [(aM, .inr (5, [.ref aZ, .ref aPast, .int pastMany, .ref aKz, .int isKept, .ref aBuf, .int typed, .ref aStk, .ref aLaid, .int wid, .int hei, .ref aPcs, .ref aTold, .int toldMany, .int spot, .int wrong])), (aZ, .inl (cI, 207, .inl zz)), (aStk, .inl (cI, 64, .inl stk)), (aLaid, .inl (cI, 64, .inl laid))]) hD hS hA [0, 1, 2, 3] rfl
  refine va_callv (va_runV (As := []) (rest := []) ⟨hx, hb, hml, hown, hts⟩ (c_X6_layNow l dC dI cI cC cS aM aZ aPast aKz aBuf aStk aLaid aPcs aTold _ pastMany isKept typed wid hei toldMany spot wrong zz stk laid hq) (cwV 0 hts gX6_size_X6_layNow rfl rfl rfl (by decide +kernel) ⟨Nat.le_of_ble_eq_true rfl, Nat.le_of_ble_eq_true rfl⟩) (gn_preV hPc hK hN hDc (ci := 5) (q0 := 0) rfl rfl) rfl rfl hl.1 rfl (lv_room (Nat.le_of_ble_eq_true rfl)) dX6_size_1 ⟨Nat.zero_le _, Nat.zero_le _⟩) hS (fun q _ h => hFc q h) hFc (fun u t H1 locs ht hvm hq hB hz1 hk1 hS => ?_)
  obtain ⟨wid__1, hei__2, stk__3, laid__4⟩ := u
  obtain ⟨hP1, hK1, hD1⟩ := hB
  rw [ht] at hP1
  try dsimp only at hq
  obtain ⟨hP, hD⟩ := va_join (wr := []) (w1 := [(aM, .inr (5, [.ref aZ, .ref aPast, .int pastMany, .ref aKz, .int isKept, .ref aBuf, .int typed, .ref aStk, .ref aLaid, .int wid__1, .int hei__2, .ref aPcs, .ref aTold, .int toldMany, .int spot, .int wrong])), (aZ, .inl (cI, 207, .inl zz)), (aStk, .inl (cI, 64, .inl stk__3)), (aLaid, .inl (cI, 64, .inl laid__4))]) hP hD [0, 1, 2, 3] [] rfl rfl (by decide) (by decide) hk1 hFc hP1 hD1
  have hP := hP.sub (ws' := [(aM, .inr (5, [.ref aZ, .ref aPast, .int pastMany, .ref aKz, .int isKept, .ref aBuf, .int typed, .ref aStk, .ref aLaid, .int wid__1, .int hei__2, .ref aPcs, .ref aTold, .int toldMany, .int spot, .int wrong])), (aZ, .inl (cI, 207, .inl zz)), (aStk, .inl (cI, 64, .inl stk__3)), (aLaid, .inl (cI, 64, .inl laid__4))]) [0, 1, 2, 3] rfl
  have hD := hD.sub (ws' := [(aM, .inr (5, [.ref aZ, .ref aPast, .int pastMany, .ref aKz, .int isKept, .ref aBuf, .int typed, .ref aStk, .ref aLaid, .int wid__1, .int hei__2, .ref aPcs, .ref aTold, .int toldMany, .int spot, .int wrong])), (aZ, .inl (cI, 207, .inl zz)), (aStk, .inl (cI, 64, .inl stk__3)), (aLaid, .inl (cI, 64, .inl laid__4))]) [0, 1, 2, 3] (by decide) rfl
  generalize H1 = H at hP hS ⊢
  refine lv_iload_n hx hb dX6_size_4 rfl (lv_at hl 1 rfl) ?_
  rcases gn_sw (0) (3) x1 with hO | ⟨j, hj, hj2⟩
  · have hq := hq.1 hO
    refine lv_tableOut (tgt := 58) hx hb dX6_size_5 hO (by decide) ?_
    refine lv_bipush (v := -2) hx hb dX6_size_58 (by decide) ?_
    exact hret _ _ _ _ _ _ _ _ _ dX6_size_60 hP hD hS hq
  · have hq := hq.2
    have hj3 : j = 0 ∨ j = 1 ∨ j = 2 ∨ j = 3 := by omega
    rcases hj3 with rfl | rfl | rfl | rfl
    · have hc : x1 = (0 : Int32) := hj2.trans (by decide)
      have hq := hq.1 hc
      refine lv_tableIn (off := 31) (tgt := 36) hx hb dX6_size_5 (by rw [hc]; decide) (by rw [hc]; decide) (by rw [hc]; rfl) (by decide) ?_
      refine lv_aload_n hx hb dX6_size_36 rfl (lv_at hl 0 rfl) ?_
      refine va_get (D := (dC, dI)) (ci := 5) (v := .int wid__1) (C := RX6) (T := TX6) (N := 16) hx hb hts iwX6_size_X6 hown hK hP 0 rfl rfl 9 (by decide) (hts _ kwX6_size_46) (fun _ h9 => h9) rfl dX6_size_37 ?_
      exact hret _ _ _ _ _ _ _ _ _ dX6_size_40 hP hD hS hq
    · have hc : x1 = (1 : Int32) := hj2.trans (by decide)
      have hq := hq.2.1 hc
      refine lv_tableIn (off := 36) (tgt := 41) hx hb dX6_size_5 (by rw [hc]; decide) (by rw [hc]; decide) (by rw [hc]; rfl) (by decide) ?_
      refine lv_aload_n hx hb dX6_size_41 rfl (lv_at hl 0 rfl) ?_
      refine va_get (D := (dC, dI)) (ci := 5) (v := .int hei__2) (C := RX6) (T := TX6) (N := 16) hx hb hts iwX6_size_X6 hown hK hP 0 rfl rfl 10 (by decide) (hts _ kwX6_size_49) (fun _ h9 => h9) rfl dX6_size_42 ?_
      exact hret _ _ _ _ _ _ _ _ _ dX6_size_45 hP hD hS hq
    · have hc : x1 = (2 : Int32) := hj2.trans (by decide)
      have hq := hq.2.2.1 hc
      refine lv_tableIn (off := 41) (tgt := 46) hx hb dX6_size_5 (by rw [hc]; decide) (by rw [hc]; decide) (by rw [hc]; rfl) (by decide) ?_
      refine lv_aload_n hx hb dX6_size_46 rfl (lv_at hl 0 rfl) ?_
      have hPc := hP.sub (ws' := [(aM, .inr (5, [.ref aZ, .ref aPast, .int pastMany, .ref aKz, .int isKept, .ref aBuf, .int typed, .ref aStk, .ref aLaid, .int wid__1, .int hei__2, .ref aPcs, .ref aTold, .int toldMany, .int spot, .int wrong]))]) [0] rfl
      have hDc := hD.sub (ws' := [(aM, .inr (5, [.ref aZ, .ref aPast, .int pastMany, .ref aKz, .int isKept, .ref aBuf, .int typed, .ref aStk, .ref aLaid, .int wid__1, .int hei__2, .ref aPcs, .ref aTold, .int toldMany, .int spot, .int wrong]))]) [0] (by decide) rfl
      have hFc := va_free (wc := [(aM, .inr (5, [.ref aZ, .ref aPast, .int pastMany, .ref aKz, .int isKept, .ref aBuf, .int typed, .ref aStk, .ref aLaid, .int wid__1, .int hei__2, .ref aPcs, .ref aTold, .int toldMany, .int spot, .int wrong]))]) hD hS hA [0] rfl
      refine va_calli (va_runV (As := []) (rest := []) ⟨hx, hb, hml, hown, hts⟩ (c_X6_layers l dC dI cI cC cS aM aZ aPast aKz aBuf aStk aLaid aPcs aTold _ pastMany isKept typed wid__1 hei__2 toldMany spot wrong hq) (cwV 0 hts gX6_size_X6_layers rfl rfl rfl (by decide +kernel) ⟨Nat.le_of_ble_eq_true rfl, Nat.le_of_ble_eq_true rfl⟩) (gn_preV hPc hK hN hDc (ci := 5) (q0 := 0) rfl rfl) rfl rfl hl.1 rfl (lv_room (Nat.le_of_ble_eq_true rfl)) dX6_size_47 ⟨Nat.zero_le _, Nat.zero_le _⟩) hS (fun q _ h => hFc q h) hFc (fun r_5 u t H1 locs ht hvm hq hB hz1 hk1 hS => ?_)
      obtain ⟨hP1, hK1, hD1⟩ := hB
      rw [ht] at hP1
      try dsimp only at hq
      obtain ⟨hP, hD⟩ := va_join (wr := [(aZ, .inl (cI, 207, .inl zz)), (aStk, .inl (cI, 64, .inl stk__3)), (aLaid, .inl (cI, 64, .inl laid__4))]) (w1 := [(aM, .inr (5, [.ref aZ, .ref aPast, .int pastMany, .ref aKz, .int isKept, .ref aBuf, .int typed, .ref aStk, .ref aLaid, .int wid__1, .int hei__2, .ref aPcs, .ref aTold, .int toldMany, .int spot, .int wrong]))]) hP hD [0] [1, 2, 3] rfl rfl (by decide) (by decide) hk1 hFc hP1 hD1
      have hP := hP.sub (ws' := [(aM, .inr (5, [.ref aZ, .ref aPast, .int pastMany, .ref aKz, .int isKept, .ref aBuf, .int typed, .ref aStk, .ref aLaid, .int wid__1, .int hei__2, .ref aPcs, .ref aTold, .int toldMany, .int spot, .int wrong])), (aZ, .inl (cI, 207, .inl zz)), (aStk, .inl (cI, 64, .inl stk__3)), (aLaid, .inl (cI, 64, .inl laid__4))]) [3, 0, 1, 2] rfl
      have hD := hD.sub (ws' := [(aM, .inr (5, [.ref aZ, .ref aPast, .int pastMany, .ref aKz, .int isKept, .ref aBuf, .int typed, .ref aStk, .ref aLaid, .int wid__1, .int hei__2, .ref aPcs, .ref aTold, .int toldMany, .int spot, .int wrong])), (aZ, .inl (cI, 207, .inl zz)), (aStk, .inl (cI, 64, .inl stk__3)), (aLaid, .inl (cI, 64, .inl laid__4))]) [3, 0, 1, 2] (by decide) rfl
      generalize H1 = H at hP hS ⊢
      exact hret _ _ _ _ _ _ _ _ _ dX6_size_50 hP hD hS hq
    · have hc : x1 = (3 : Int32) := hj2.trans (by decide)
      have hq := hq.2.2.2 hc
      refine lv_tableIn (off := 46) (tgt := 51) hx hb dX6_size_5 (by rw [hc]; decide) (by rw [hc]; decide) (by rw [hc]; rfl) (by decide) ?_
      refine lv_aload_n hx hb dX6_size_51 rfl (lv_at hl 0 rfl) ?_
      refine va_get (D := (dC, dI)) (ci := 5) (v := .ref aZ) (C := RX6) (T := TX6) (N := 16) hx hb hts iwX6_size_X6 hown hK hP 0 rfl rfl 0 (by decide) (hts _ kwX6_size_7) (fun _ h9 => h9) rfl dX6_size_52 ?_
      refine lv_iconst (v := 0) hx hb dX6_size_55 (by decide) ?_
      have hin := hq.1
      have hq := hq.2
      refine va_iald hx hb hK hP 1 0 rfl rfl hin dX6_size_56 ?_
      exact hret _ _ _ _ _ _ _ _ _ dX6_size_57 hP hD hS hq
set_option maxRecDepth 20000 in
theorem kwX6_foldAt_7 : Cond.fieldLink RX6 7 "PunchedFoldsModel" "z" "[I" ∈ wsX6_foldAt := by decide +kernel
set_option maxRecDepth 20000 in
theorem iwX6_foldAt_X6 : ∀ w ∈ wsX60, w ∈ wsX6_foldAt := by decide +kernel
set_option maxHeartbeats 4000000 in
set_option maxRecDepth 100000 in
theorem c_X6_foldAt (l : Launch) (dC : Nat → ClassId) (dI : Nat → Nat → Nat) (cI cC cS : ClassId) (aM : Nat) (aZ : Nat) (aPast : Nat) (aKz : Nat) (aBuf : Nat) (aStk : Nat) (aLaid : Nat) (aPcs : Nat) (aTold : Nat) (sz : Nat) (pastMany : Int32) (isKept : Int32) (typed : Int32) (wid : Int32) (hei : Int32) (toldMany : Int32) (spot : Int32) (wrong : Int32) (zz : Nat → Int32) (x1 : Int32) {post : Int32 → Prop} (hq : wp_X6_foldAt zz x1 post) : Met l yX6_foldAt wsX6_foldAt ({ frames := 1, cells := 0, slots := 0, locals := 22 } : Room) (gn_Pre (dC, dI) cI cC cS [.ref aM, .int x1] sz [(aM, .inr (5, [.ref aZ, .ref aPast, .int pastMany, .ref aKz, .int isKept, .ref aBuf, .int typed, .ref aStk, .ref aLaid, .int wid, .int hei, .ref aPcs, .ref aTold, .int toldMany, .int spot, .int wrong])), (aZ, .inl (cI, 207, .inl zz))]) (va_Qi (fun (r : Int32) (u : Unit) => post r) (fun (u : Unit) t => va_P (dC, dI) vwCl [(aM, .inr (5, [.ref aZ, .ref aPast, .int pastMany, .ref aKz, .int isKept, .ref aBuf, .int typed, .ref aStk, .ref aLaid, .int wid, .int hei, .ref aPcs, .ref aTold, .int toldMany, .int spot, .int wrong])), (aZ, .inl (cI, 207, .inl zz))] t.heap ∧ va_K (dC, dI) vwCl (gn_tys cI cC cS) t ∧ va_D (va_A [(aM, .inr (5, [.ref aZ, .ref aPast, .int pastMany, .ref aKz, .int isKept, .ref aBuf, .int typed, .ref aStk, .ref aLaid, .int wid, .int hei, .ref aPcs, .ref aTold, .int toldMany, .int spot, .int wrong])), (aZ, .inl (cI, 207, .inl zz))] sz) [(aM, .inr (5, [.ref aZ, .ref aPast, .int pastMany, .ref aKz, .int isKept, .ref aBuf, .int typed, .ref aStk, .ref aLaid, .int wid, .int hei, .ref aPcs, .ref aTold, .int toldMany, .int spot, .int wrong])), (aZ, .inl (cI, 207, .inl zz))]) (va_A [(aM, .inr (5, [.ref aZ, .ref aPast, .int pastMany, .ref aKz, .int isKept, .ref aBuf, .int typed, .ref aStk, .ref aLaid, .int wid, .int hei, .ref aPcs, .ref aTold, .int toldMany, .int spot, .int wrong])), (aZ, .inl (cI, 207, .inl zz))] sz)) 0 0 (va_A [(aM, .inr (5, [.ref aZ, .ref aPast, .int pastMany, .ref aKz, .int isKept, .ref aBuf, .int typed, .ref aStk, .ref aLaid, .int wid, .int hei, .ref aPcs, .ref aTold, .int toldMany, .int spot, .int wrong])), (aZ, .inl (cI, 207, .inl zz))] sz) := by
  unfold wp_X6_foldAt at hq
  refine Met.ofW (cc := cX6_foldAt) (maxL := 2) (ret := (some .int)) (by decide) rfl ?_
  intro p e s m args below meth c s₁ B hml hv
  obtain ⟨rfl, hsz, hP, hK, hN, hD0⟩ := hv
  have hx := B.exec
  have hb := B.bytes
  have hr := B.returns
  have hts := atoms_spec (ws := wsX6_foldAt) B.pre
  have hown : s.vm.findClass RX6 = some m.cls := findClass_of_methodNamed B.named
  have hlocks := B.notSynchronized
  subst hsz
  have hD := hD0.self (sz := s.heap.size)
  generalize hAe : va_A [(aM, .inr (5, [.ref aZ, .ref aPast, .int pastMany, .ref aKz, .int isKept, .ref aBuf, .int typed, .ref aStk, .ref aLaid, .int wid, .int hei, .ref aPcs, .ref aTold, .int toldMany, .int spot, .int wrong])), (aZ, .inl (cI, 207, .inl zz))] s.heap.size = A at hD ⊢
  have hA : ∀ q : Nat, s.heap.size ≤ q → A q := fun q h => by rw [← hAe]; exact Or.inr h
  have hS : va_S A s.heap s.heap [] := va_S.rf
  have hl := lv_entry ([.ref aM, .int x1] : List Value) (n := 2) (Nat.le_of_ble_eq_true rfl)
  rw [lg_entry_eq]
  generalize (lg_sl ([.ref aM, .int x1] : List Value) ++ List.replicate (2 - (lg_sl ([.ref aM, .int x1] : List Value)).length) Slot.unset).toArray = ls at hl ⊢
  have hl : lv_has ls 2 [(0, .ref aM), (1, .int x1)] := hl
  refine gn_Q (hret := fun Q => ∀ (pc : Nat) (ls : Array Slot) (H : Heap) (locs : List Loc) (r : Int32) , decode cX6_foldAt pc = .ok (.ireturn, 1) → va_P (dC, dI) vwCl [(aM, .inr (5, [.ref aZ, .ref aPast, .int pastMany, .ref aKz, .int isKept, .ref aBuf, .int typed, .ref aStk, .ref aLaid, .int wid, .int hei, .ref aPcs, .ref aTold, .int toldMany, .int spot, .int wrong])), (aZ, .inl (cI, 207, .inl zz))] H → va_D A [(aM, .inr (5, [.ref aZ, .ref aPast, .int pastMany, .ref aKz, .int isKept, .ref aBuf, .int typed, .ref aStk, .ref aLaid, .int wid, .int hei, .ref aPcs, .ref aTold, .int toldMany, .int spot, .int wrong])), (aZ, .inl (cI, 207, .inl zz))] → va_S A s.heap H locs → post r → W p l e ({ frames := 1, cells := 0, slots := 0, locals := 22 } : Room) s m ([.ref aM, .int x1] : List Value).toArray below meth c H locs 0 0 Q (F0 m pc ls [.int r])) (fun Q hret => ?_) ?_
  rotate_left
  · intro pc ls H locs r hdg hP hD hS hpost
    exact W.iret (v := r) hx hb hr (fun t ht hW => ⟨⟨r, (), rfl, hpost, by rw [ht]; exact hP, va_K.moved hW.alike hK, hD⟩, hS.F ht⟩) hS.2.2 hdg
  refine lv_iload_n hx hb dX6_foldAt_0 rfl (lv_at hl 1 rfl) ?_
  refine lv_iconst (v := 0) hx hb dX6_foldAt_1 (by decide) ?_
  refine lv_aload_n hx hb dX6_foldAt_2 rfl (lv_at hl 0 rfl) ?_
  refine va_get (D := (dC, dI)) (ci := 5) (v := .ref aZ) (C := RX6) (T := TX6) (N := 16) hx hb hts iwX6_foldAt_X6 hown hK hP 0 rfl rfl 0 (by decide) (hts _ kwX6_foldAt_7) (fun _ h9 => h9) rfl dX6_foldAt_3 ?_
  refine lv_iconst (v := 0) hx hb dX6_foldAt_6 (by decide) ?_
  have hin := hq.1
  have hq := hq.2
  refine va_iald hx hb hK hP 1 0 rfl rfl hin dX6_foldAt_7 ?_
  refine lv_iconst (v := 1) hx hb dX6_foldAt_8 (by decide) ?_
  refine lv_isub hx hb dX6_foldAt_9 ?_
  have hPc := hP.sub (ws' := []) [] rfl
  have hDc := hD.sub (ws' := []) [] (by decide) rfl
  have hFc := va_free (wc := []) hD hS hA [] rfl
  refine va_calli (va_runS (As := [.int x1, .int (0 : Int32), .int ((zz ((0 : Int32)).toNatClampNeg) - (1 : Int32))]) (rest := []) ⟨hx, hb, hml, hown, hts⟩ (c_X6_in l dC dI cI cC cS _ x1 (0 : Int32) ((zz ((0 : Int32)).toNatClampNeg) - (1 : Int32)) hq) (va_cwS 3 hts gX6_foldAt_X6_in rfl rfl rfl (by decide +kernel) ⟨Nat.le_of_ble_eq_true rfl, Nat.le_of_ble_eq_true rfl⟩) (gn_preS hPc hK hN hDc) rfl rfl hl.1 rfl (lv_room (Nat.le_of_ble_eq_true rfl)) dX6_foldAt_10 ⟨Nat.zero_le _, Nat.zero_le _⟩) hS (fun q _ h => hFc q h) hFc (fun r_1 u t H1 locs ht hvm hq hB hz1 hk1 hS => ?_)
  obtain ⟨hP1, hK1, hD1⟩ := hB
  rw [ht] at hP1
  try dsimp only at hq
  obtain ⟨hP, hD⟩ := va_join (wr := [(aM, .inr (5, [.ref aZ, .ref aPast, .int pastMany, .ref aKz, .int isKept, .ref aBuf, .int typed, .ref aStk, .ref aLaid, .int wid, .int hei, .ref aPcs, .ref aTold, .int toldMany, .int spot, .int wrong])), (aZ, .inl (cI, 207, .inl zz))]) (w1 := []) hP hD [] [0, 1] rfl rfl (by decide) (by decide) hk1 hFc hP1 hD1
  have hP := hP.sub (ws' := [(aM, .inr (5, [.ref aZ, .ref aPast, .int pastMany, .ref aKz, .int isKept, .ref aBuf, .int typed, .ref aStk, .ref aLaid, .int wid, .int hei, .ref aPcs, .ref aTold, .int toldMany, .int spot, .int wrong])), (aZ, .inl (cI, 207, .inl zz))]) [0, 1] rfl
  have hD := hD.sub (ws' := [(aM, .inr (5, [.ref aZ, .ref aPast, .int pastMany, .ref aKz, .int isKept, .ref aBuf, .int typed, .ref aStk, .ref aLaid, .int wid, .int hei, .ref aPcs, .ref aTold, .int toldMany, .int spot, .int wrong])), (aZ, .inl (cI, 207, .inl zz))]) [0, 1] (by decide) rfl
  generalize H1 = H at hP hS ⊢
  refine lv_if_eq (tgt := 27) hx hb dX6_foldAt_13 (by decide) (fun hc => ?_) (fun hc => ?_)
  · have hq := hq.1 hc
    refine lv_iconst (v := -1) hx hb dX6_foldAt_27 (by decide) ?_
    exact hret _ _ _ _ _ dX6_foldAt_28 hP hD hS hq
  · have hq := hq.2 hc
    refine lv_aload_n hx hb dX6_foldAt_16 rfl (lv_at hl 0 rfl) ?_
    refine va_get (D := (dC, dI)) (ci := 5) (v := .ref aZ) (C := RX6) (T := TX6) (N := 16) hx hb hts iwX6_foldAt_X6 hown hK hP 0 rfl rfl 0 (by decide) (hts _ kwX6_foldAt_7) (fun _ h9 => h9) rfl dX6_foldAt_17 ?_
    refine lv_iconst (v := 1) hx hb dX6_foldAt_20 (by decide) ?_
    refine lv_iload_n hx hb dX6_foldAt_21 rfl (lv_at hl 1 rfl) ?_
    refine lv_iadd hx hb dX6_foldAt_22 ?_
    have hin := hq.1
    have hq := hq.2
    refine va_iald hx hb hK hP 1 0 rfl rfl hin dX6_foldAt_23 ?_
    refine lv_goto (tgt := 28) hx hb dX6_foldAt_24 (by decide) ?_
    exact hret _ _ _ _ _ dX6_foldAt_28 hP hD hS hq
set_option maxHeartbeats 4000000 in
set_option maxRecDepth 100000 in
theorem c_X6_whyNotPunch (l : Launch) (dC : Nat → ClassId) (dI : Nat → Nat → Nat) (cI cC cS : ClassId) (aM : Nat) (aZ : Nat) (aPast : Nat) (aKz : Nat) (aBuf : Nat) (aStk : Nat) (aLaid : Nat) (aPcs : Nat) (aTold : Nat) (sz : Nat) (pastMany : Int32) (isKept : Int32) (typed : Int32) (wid : Int32) (hei : Int32) (toldMany : Int32) (spot : Int32) (wrong : Int32) (zz : Nat → Int32) (stk : Nat → Int32) (laid : Nat → Int32) (x1 : Int32) (x2 : Int32) (x3 : Int32) {post : Int32 → Int32 → Int32 → (Nat → Int32) → (Nat → Int32) → Prop} (hq : wp_X6_whyNotPunch wid hei zz stk laid x1 x2 x3 post) : Met l yX6_whyNotPunch wsX6_whyNotPunch ({ frames := 5, cells := 0, slots := 0, locals := 116 } : Room) (gn_Pre (dC, dI) cI cC cS [.ref aM, .int x1, .int x2, .int x3] sz [(aM, .inr (5, [.ref aZ, .ref aPast, .int pastMany, .ref aKz, .int isKept, .ref aBuf, .int typed, .ref aStk, .ref aLaid, .int wid, .int hei, .ref aPcs, .ref aTold, .int toldMany, .int spot, .int wrong])), (aZ, .inl (cI, 207, .inl zz)), (aStk, .inl (cI, 64, .inl stk)), (aLaid, .inl (cI, 64, .inl laid))]) (va_Qi (fun (r : Int32) (u : Int32 × Int32 × (Nat → Int32) × (Nat → Int32)) => post r u.1 u.2.1 u.2.2.1 u.2.2.2) (fun (u : Int32 × Int32 × (Nat → Int32) × (Nat → Int32)) t => va_P (dC, dI) vwCl [(aM, .inr (5, [.ref aZ, .ref aPast, .int pastMany, .ref aKz, .int isKept, .ref aBuf, .int typed, .ref aStk, .ref aLaid, .int u.1, .int u.2.1, .ref aPcs, .ref aTold, .int toldMany, .int spot, .int wrong])), (aZ, .inl (cI, 207, .inl zz)), (aStk, .inl (cI, 64, .inl u.2.2.1)), (aLaid, .inl (cI, 64, .inl u.2.2.2))] t.heap ∧ va_K (dC, dI) vwCl (gn_tys cI cC cS) t ∧ va_D (va_A [(aM, .inr (5, [.ref aZ, .ref aPast, .int pastMany, .ref aKz, .int isKept, .ref aBuf, .int typed, .ref aStk, .ref aLaid, .int wid, .int hei, .ref aPcs, .ref aTold, .int toldMany, .int spot, .int wrong])), (aZ, .inl (cI, 207, .inl zz)), (aStk, .inl (cI, 64, .inl stk)), (aLaid, .inl (cI, 64, .inl laid))] sz) [(aM, .inr (5, [.ref aZ, .ref aPast, .int pastMany, .ref aKz, .int isKept, .ref aBuf, .int typed, .ref aStk, .ref aLaid, .int u.1, .int u.2.1, .ref aPcs, .ref aTold, .int toldMany, .int spot, .int wrong])), (aZ, .inl (cI, 207, .inl zz)), (aStk, .inl (cI, 64, .inl u.2.2.1)), (aLaid, .inl (cI, 64, .inl u.2.2.2))]) (va_A [(aM, .inr (5, [.ref aZ, .ref aPast, .int pastMany, .ref aKz, .int isKept, .ref aBuf, .int typed, .ref aStk, .ref aLaid, .int wid, .int hei, .ref aPcs, .ref aTold, .int toldMany, .int spot, .int wrong])), (aZ, .inl (cI, 207, .inl zz)), (aStk, .inl (cI, 64, .inl stk)), (aLaid, .inl (cI, 64, .inl laid))] sz)) 0 0 (va_A [(aM, .inr (5, [.ref aZ, .ref aPast, .int pastMany, .ref aKz, .int isKept, .ref aBuf, .int typed, .ref aStk, .ref aLaid, .int wid, .int hei, .ref aPcs, .ref aTold, .int toldMany, .int spot, .int wrong])), (aZ, .inl (cI, 207, .inl zz)), (aStk, .inl (cI, 64, .inl stk)), (aLaid, .inl (cI, 64, .inl laid))] sz) := by
  unfold wp_X6_whyNotPunch at hq
  refine Met.ofW (cc := cX6_whyNotPunch) (maxL := 5) (ret := (some .int)) (by decide) rfl ?_
  intro p e s m args below meth c s₁ B hml hv
  obtain ⟨rfl, hsz, hP, hK, hN, hD0⟩ := hv
  have hx := B.exec
  have hb := B.bytes
  have hr := B.returns
  have hts := atoms_spec (ws := wsX6_whyNotPunch) B.pre
  have hown : s.vm.findClass RX6 = some m.cls := findClass_of_methodNamed B.named
  have hlocks := B.notSynchronized
  subst hsz
  have hD := hD0.self (sz := s.heap.size)
  generalize hAe : va_A [(aM, .inr (5, [.ref aZ, .ref aPast, .int pastMany, .ref aKz, .int isKept, .ref aBuf, .int typed, .ref aStk, .ref aLaid, .int wid, .int hei, .ref aPcs, .ref aTold, .int toldMany, .int spot, .int wrong])), (aZ, .inl (cI, 207, .inl zz)), (aStk, .inl (cI, 64, .inl stk)), (aLaid, .inl (cI, 64, .inl laid))] s.heap.size = A at hD ⊢
  have hA : ∀ q : Nat, s.heap.size ≤ q → A q := fun q h => by rw [← hAe]; exact Or.inr h
  have hS : va_S A s.heap s.heap [] := va_S.rf
  have hl := lv_entry ([.ref aM, .int x1, .int x2, .int x3] : List Value) (n := 5) (Nat.le_of_ble_eq_true rfl)
  rw [lg_entry_eq]
  generalize (lg_sl ([.ref aM, .int x1, .int x2, .int x3] : List Value) ++ List.replicate (5 - (lg_sl ([.ref aM, .int x1, .int x2, .int x3] : List Value)).length) Slot.unset).toArray = ls at hl ⊢
  have hl : lv_has ls 5 [(0, .ref aM), (1, .int x1), (2, .int x2), (3, .int x3)] := hl
  refine gn_Q (hret := fun Q => ∀ (pc : Nat) (ls : Array Slot) (H : Heap) (locs : List Loc) (r : Int32) (m_wid : Int32) (m_hei : Int32) (m_stk : Nat → Int32) (m_laid : Nat → Int32), decode cX6_whyNotPunch pc = .ok (.ireturn, 1) → va_P (dC, dI) vwCl [(aM, .inr (5, [.ref aZ, .ref aPast, .int pastMany, .ref aKz, .int isKept, .ref aBuf, .int typed, .ref aStk, .ref aLaid, .int m_wid, .int m_hei, .ref aPcs, .ref aTold, .int toldMany, .int spot, .int wrong])), (aZ, .inl (cI, 207, .inl zz)), (aStk, .inl (cI, 64, .inl m_stk)), (aLaid, .inl (cI, 64, .inl m_laid))] H → va_D A [(aM, .inr (5, [.ref aZ, .ref aPast, .int pastMany, .ref aKz, .int isKept, .ref aBuf, .int typed, .ref aStk, .ref aLaid, .int m_wid, .int m_hei, .ref aPcs, .ref aTold, .int toldMany, .int spot, .int wrong])), (aZ, .inl (cI, 207, .inl zz)), (aStk, .inl (cI, 64, .inl m_stk)), (aLaid, .inl (cI, 64, .inl m_laid))] → va_S A s.heap H locs → post r m_wid m_hei m_stk m_laid → W p l e ({ frames := 5, cells := 0, slots := 0, locals := 116 } : Room) s m ([.ref aM, .int x1, .int x2, .int x3] : List Value).toArray below meth c H locs 0 0 Q (F0 m pc ls [.int r])) (fun Q hret => ?_) ?_
  rotate_left
  · intro pc ls H locs r m_wid m_hei m_stk m_laid hdg hP hD hS hpost
    exact W.iret (v := r) hx hb hr (fun t ht hW => ⟨⟨r, (m_wid, m_hei, m_stk, m_laid), rfl, hpost, by rw [ht]; exact hP, va_K.moved hW.alike hK, hD⟩, hS.F ht⟩) hS.2.2 hdg
  refine lv_aload_n hx hb dX6_whyNotPunch_0 rfl (lv_at hl 0 rfl) ?_
  refine lv_iload_n hx hb dX6_whyNotPunch_1 rfl (lv_at hl 1 rfl) ?_
  refine lv_iload_n hx hb dX6_whyNotPunch_2 rfl (lv_at hl 2 rfl) ?_
  have hPc := hP.sub (ws' := [(aM, .inr (5, [.ref aZ, .ref aPast, .int pastMany, .ref aKz, .int isKept, .ref aBuf, .int typed, .ref aStk, .ref aLaid, .int wid, .int hei, .ref aPcs, .ref aTold, .int toldMany, .int spot, .int wrong])), (aZ, .inl (cI, 207, .inl zz)), (aStk, .inl (cI, 64, .inl stk)), (aLaid, .inl (cI, 64, .inl laid))]) [0, 1, 2, 3] rfl
  have hDc := hD.sub (ws' := [(aM, .inr (5, [.ref aZ, .ref aPast, .int pastMany, .ref aKz, .int isKept, .ref aBuf, .int typed, .ref aStk, .ref aLaid, .int wid, .int hei, .ref aPcs, .ref aTold, .int toldMany, .int spot, .int wrong])), (aZ, .inl (cI, 207, .inl zz)), (aStk, .inl (cI, 64, .inl stk)), (aLaid, .inl (cI, 64, .inl laid))]) [0, 1, 2, 3] (by decide) rfl
  have hFc := va_free (wc := [(aM, .inr (5, [.ref aZ, .ref aPast, .int pastMany, .ref aKz, .int isKept, .ref aBuf, .int typed, .ref aStk, .ref aLaid, .int wid, .int hei, .ref aPcs, .ref aTold, .int toldMany, .int spot, .int wrong])), (aZ, .inl (cI, 207, .inl zz)), (aStk, .inl (cI, 64, .inl stk)), (aLaid, .inl (cI, 64, .inl laid))]) hD hS hA [0, 1, 2, 3] rfl
  refine va_calli (va_runV (As := [.int x1, .int x2]) (rest := []) ⟨hx, hb, hml, hown, hts⟩ (c_X6_top l dC dI cI cC cS aM aZ aPast aKz aBuf aStk aLaid aPcs aTold _ pastMany isKept typed wid hei toldMany spot wrong zz stk laid x1 x2 hq) (cwV 2 hts gX6_whyNotPunch_X6_top rfl rfl rfl (by decide +kernel) ⟨Nat.le_of_ble_eq_true rfl, Nat.le_of_ble_eq_true rfl⟩) (gn_preV hPc hK hN hDc (ci := 5) (q0 := 0) rfl rfl) rfl rfl hl.1 rfl (lv_room (Nat.le_of_ble_eq_true rfl)) dX6_whyNotPunch_3 ⟨Nat.zero_le _, Nat.zero_le _⟩) hS (fun q _ h => hFc q h) hFc (fun r_1 u t H1 locs ht hvm hq hB hz1 hk1 hS => ?_)
  obtain ⟨wid__2, hei__3, stk__4, laid__5⟩ := u
  obtain ⟨hP1, hK1, hD1⟩ := hB
  rw [ht] at hP1
  try dsimp only at hq
  obtain ⟨hP, hD⟩ := va_join (wr := []) (w1 := [(aM, .inr (5, [.ref aZ, .ref aPast, .int pastMany, .ref aKz, .int isKept, .ref aBuf, .int typed, .ref aStk, .ref aLaid, .int wid__2, .int hei__3, .ref aPcs, .ref aTold, .int toldMany, .int spot, .int wrong])), (aZ, .inl (cI, 207, .inl zz)), (aStk, .inl (cI, 64, .inl stk__4)), (aLaid, .inl (cI, 64, .inl laid__5))]) hP hD [0, 1, 2, 3] [] rfl rfl (by decide) (by decide) hk1 hFc hP1 hD1
  have hP := hP.sub (ws' := [(aM, .inr (5, [.ref aZ, .ref aPast, .int pastMany, .ref aKz, .int isKept, .ref aBuf, .int typed, .ref aStk, .ref aLaid, .int wid__2, .int hei__3, .ref aPcs, .ref aTold, .int toldMany, .int spot, .int wrong])), (aZ, .inl (cI, 207, .inl zz)), (aStk, .inl (cI, 64, .inl stk__4)), (aLaid, .inl (cI, 64, .inl laid__5))]) [0, 1, 2, 3] rfl
  have hD := hD.sub (ws' := [(aM, .inr (5, [.ref aZ, .ref aPast, .int pastMany, .ref aKz, .int isKept, .ref aBuf, .int typed, .ref aStk, .ref aLaid, .int wid__2, .int hei__3, .ref aPcs, .ref aTold, .int toldMany, .int spot, .int wrong])), (aZ, .inl (cI, 207, .inl zz)), (aStk, .inl (cI, 64, .inl stk__4)), (aLaid, .inl (cI, 64, .inl laid__5))]) [0, 1, 2, 3] (by decide) rfl
  generalize H1 = H at hP hS ⊢
  refine lv_istore (lv' := [(4, .int r_1), (0, .ref aM), (1, .int x1), (2, .int x2), (3, .int x3)]) hx hb dX6_whyNotPunch_6 hl (by decide) rfl (fun ls hl => ?_)
  refine lv_iload hx hb dX6_whyNotPunch_8 (lv_at hl 0 rfl) ?_
  refine lv_bipush (v := -6) hx hb dX6_whyNotPunch_10 (by decide) ?_
  refine lv_icmp_ne (tgt := 19) hx hb dX6_whyNotPunch_12 (by decide) (fun hc => ?_) (fun hc => ?_)
  · have hq := hq.1 hc
    refine lv_iload_n hx hb dX6_whyNotPunch_19 rfl (lv_at hl 4 rfl) ?_
    refine lv_iconst (v := 1) hx hb dX6_whyNotPunch_20 (by decide) ?_
    refine lv_aload_n hx hb dX6_whyNotPunch_21 rfl (lv_at hl 1 rfl) ?_
    have hPc := hP.sub (ws' := [(aM, .inr (5, [.ref aZ, .ref aPast, .int pastMany, .ref aKz, .int isKept, .ref aBuf, .int typed, .ref aStk, .ref aLaid, .int wid__2, .int hei__3, .ref aPcs, .ref aTold, .int toldMany, .int spot, .int wrong]))]) [0] rfl
    have hDc := hD.sub (ws' := [(aM, .inr (5, [.ref aZ, .ref aPast, .int pastMany, .ref aKz, .int isKept, .ref aBuf, .int typed, .ref aStk, .ref aLaid, .int wid__2, .int hei__3, .ref aPcs, .ref aTold, .int toldMany, .int spot, .int wrong]))]) [0] (by decide) rfl
    have hFc := va_free (wc := [(aM, .inr (5, [.ref aZ, .ref aPast, .int pastMany, .ref aKz, .int isKept, .ref aBuf, .int typed, .ref aStk, .ref aLaid, .int wid__2, .int hei__3, .ref aPcs, .ref aTold, .int toldMany, .int spot, .int wrong]))]) hD hS hA [0] rfl
    refine va_calli (va_runV (As := []) (rest := [.int (1 : Int32), .int x3]) ⟨hx, hb, hml, hown, hts⟩ (c_X6_layers l dC dI cI cC cS aM aZ aPast aKz aBuf aStk aLaid aPcs aTold _ pastMany isKept typed wid__2 hei__3 toldMany spot wrong hq) (cwV 0 hts gX6_whyNotPunch_X6_layers rfl rfl rfl (by decide +kernel) ⟨Nat.le_of_ble_eq_true rfl, Nat.le_of_ble_eq_true rfl⟩) (gn_preV hPc hK hN hDc (ci := 5) (q0 := 0) rfl rfl) rfl rfl hl.1 rfl (lv_room (Nat.le_of_ble_eq_true rfl)) dX6_whyNotPunch_22 ⟨Nat.zero_le _, Nat.zero_le _⟩) hS (fun q _ h => hFc q h) hFc (fun r_6 u t H1 locs ht hvm hq hB hz1 hk1 hS => ?_)
    obtain ⟨hP1, hK1, hD1⟩ := hB
    rw [ht] at hP1
    try dsimp only at hq
    obtain ⟨hP, hD⟩ := va_join (wr := [(aZ, .inl (cI, 207, .inl zz)), (aStk, .inl (cI, 64, .inl stk__4)), (aLaid, .inl (cI, 64, .inl laid__5))]) (w1 := [(aM, .inr (5, [.ref aZ, .ref aPast, .int pastMany, .ref aKz, .int isKept, .ref aBuf, .int typed, .ref aStk, .ref aLaid, .int wid__2, .int hei__3, .ref aPcs, .ref aTold, .int toldMany, .int spot, .int wrong]))]) hP hD [0] [1, 2, 3] rfl rfl (by decide) (by decide) hk1 hFc hP1 hD1
    have hP := hP.sub (ws' := [(aM, .inr (5, [.ref aZ, .ref aPast, .int pastMany, .ref aKz, .int isKept, .ref aBuf, .int typed, .ref aStk, .ref aLaid, .int wid__2, .int hei__3, .ref aPcs, .ref aTold, .int toldMany, .int spot, .int wrong])), (aZ, .inl (cI, 207, .inl zz)), (aStk, .inl (cI, 64, .inl stk__4)), (aLaid, .inl (cI, 64, .inl laid__5))]) [3, 0, 1, 2] rfl
    have hD := hD.sub (ws' := [(aM, .inr (5, [.ref aZ, .ref aPast, .int pastMany, .ref aKz, .int isKept, .ref aBuf, .int typed, .ref aStk, .ref aLaid, .int wid__2, .int hei__3, .ref aPcs, .ref aTold, .int toldMany, .int spot, .int wrong])), (aZ, .inl (cI, 207, .inl zz)), (aStk, .inl (cI, 64, .inl stk__4)), (aLaid, .inl (cI, 64, .inl laid__5))]) [3, 0, 1, 2] (by decide) rfl
    generalize H1 = H at hP hS ⊢
    have hPc := hP.sub (ws' := []) [] rfl
    have hDc := hD.sub (ws' := []) [] (by decide) rfl
    have hFc := va_free (wc := []) hD hS hA [] rfl
    refine va_calli (va_runS (As := [.int x3, .int (1 : Int32), .int r_6]) (rest := []) ⟨hx, hb, hml, hown, hts⟩ (c_X6_in l dC dI cI cC cS _ x3 (1 : Int32) r_6 hq) (va_cwS 3 hts gX6_whyNotPunch_X6_in rfl rfl rfl (by decide +kernel) ⟨Nat.le_of_ble_eq_true rfl, Nat.le_of_ble_eq_true rfl⟩) (gn_preS hPc hK hN hDc) rfl rfl hl.1 rfl (lv_room (Nat.le_of_ble_eq_true rfl)) dX6_whyNotPunch_25 ⟨Nat.zero_le _, Nat.zero_le _⟩) hS (fun q _ h => hFc q h) hFc (fun r_7 u t H1 locs ht hvm hq hB hz1 hk1 hS => ?_)
    obtain ⟨hP1, hK1, hD1⟩ := hB
    rw [ht] at hP1
    try dsimp only at hq
    obtain ⟨hP, hD⟩ := va_join (wr := [(aM, .inr (5, [.ref aZ, .ref aPast, .int pastMany, .ref aKz, .int isKept, .ref aBuf, .int typed, .ref aStk, .ref aLaid, .int wid__2, .int hei__3, .ref aPcs, .ref aTold, .int toldMany, .int spot, .int wrong])), (aZ, .inl (cI, 207, .inl zz)), (aStk, .inl (cI, 64, .inl stk__4)), (aLaid, .inl (cI, 64, .inl laid__5))]) (w1 := []) hP hD [] [0, 1, 2, 3] rfl rfl (by decide) (by decide) hk1 hFc hP1 hD1
    have hP := hP.sub (ws' := [(aM, .inr (5, [.ref aZ, .ref aPast, .int pastMany, .ref aKz, .int isKept, .ref aBuf, .int typed, .ref aStk, .ref aLaid, .int wid__2, .int hei__3, .ref aPcs, .ref aTold, .int toldMany, .int spot, .int wrong])), (aZ, .inl (cI, 207, .inl zz)), (aStk, .inl (cI, 64, .inl stk__4)), (aLaid, .inl (cI, 64, .inl laid__5))]) [0, 1, 2, 3] rfl
    have hD := hD.sub (ws' := [(aM, .inr (5, [.ref aZ, .ref aPast, .int pastMany, .ref aKz, .int isKept, .ref aBuf, .int typed, .ref aStk, .ref aLaid, .int wid__2, .int hei__3, .ref aPcs, .ref aTold, .int toldMany, .int spot, .int wrong])), (aZ, .inl (cI, 207, .inl zz)), (aStk, .inl (cI, 64, .inl stk__4)), (aLaid, .inl (cI, 64, .inl laid__5))]) [0, 1, 2, 3] (by decide) rfl
    generalize H1 = H at hP hS ⊢
    refine lv_if_eq (tgt := 35) hx hb dX6_whyNotPunch_28 (by decide) (fun hc => ?_) (fun hc => ?_)
    · have hq := hq.1 hc
      refine lv_bipush (v := -2) hx hb dX6_whyNotPunch_35 (by decide) ?_
      exact hret _ _ _ _ _ _ _ _ _ dX6_whyNotPunch_37 hP hD hS hq
    · have hq := hq.2 hc
      refine lv_iconst (v := 0) hx hb dX6_whyNotPunch_31 (by decide) ?_
      refine lv_goto (tgt := 37) hx hb dX6_whyNotPunch_32 (by decide) ?_
      exact hret _ _ _ _ _ _ _ _ _ dX6_whyNotPunch_37 hP hD hS hq
  · have hq := hq.2 hc
    refine lv_iconst (v := -1) hx hb dX6_whyNotPunch_15 (by decide) ?_
    refine lv_goto (tgt := 37) hx hb dX6_whyNotPunch_16 (by decide) ?_
    exact hret _ _ _ _ _ _ _ _ _ dX6_whyNotPunch_37 hP hD hS hq
set_option maxRecDepth 20000 in
theorem kwX6_makesHoles_23 : Cond.fieldLink RX6 23 "PunchedFoldsModel" "stacks" "[I" ∈ wsX6_makesHoles := by decide +kernel
set_option maxRecDepth 20000 in
theorem iwX6_makesHoles_X6 : ∀ w ∈ wsX60, w ∈ wsX6_makesHoles := by decide +kernel
set_option maxRecDepth 20000 in
theorem kwX6_makesHoles_7 : Cond.fieldLink RX6 7 "PunchedFoldsModel" "z" "[I" ∈ wsX6_makesHoles := by decide +kernel
set_option maxHeartbeats 4000000 in
set_option maxRecDepth 100000 in
theorem c_X6_makesHoles (l : Launch) (dC : Nat → ClassId) (dI : Nat → Nat → Nat) (cI cC cS : ClassId) (aM : Nat) (aZ : Nat) (aPast : Nat) (aKz : Nat) (aBuf : Nat) (aStk : Nat) (aLaid : Nat) (aPcs : Nat) (aTold : Nat) (sz : Nat) (pastMany : Int32) (isKept : Int32) (typed : Int32) (wid : Int32) (hei : Int32) (toldMany : Int32) (spot : Int32) (wrong : Int32) (zz : Nat → Int32) (stk : Nat → Int32) (laid : Nat → Int32) (x1 : Int32) (x2 : Int32) (x3 : Int32) {post : Int32 → Int32 → Int32 → (Nat → Int32) → (Nat → Int32) → (Nat → Int32) → Prop} (hq : wp_X6_makesHoles wid hei zz stk laid x1 x2 x3 post) : Met l yX6_makesHoles wsX6_makesHoles ({ frames := 5, cells := 0, slots := 0, locals := 116 } : Room) (gn_Pre (dC, dI) cI cC cS [.ref aM, .int x1, .int x2, .int x3] sz [(aM, .inr (5, [.ref aZ, .ref aPast, .int pastMany, .ref aKz, .int isKept, .ref aBuf, .int typed, .ref aStk, .ref aLaid, .int wid, .int hei, .ref aPcs, .ref aTold, .int toldMany, .int spot, .int wrong])), (aZ, .inl (cI, 207, .inl zz)), (aStk, .inl (cI, 64, .inl stk)), (aLaid, .inl (cI, 64, .inl laid))]) (va_Qi (fun (r : Int32) (u : Int32 × Int32 × (Nat → Int32) × (Nat → Int32) × (Nat → Int32)) => post r u.1 u.2.1 u.2.2.1 u.2.2.2.1 u.2.2.2.2) (fun (u : Int32 × Int32 × (Nat → Int32) × (Nat → Int32) × (Nat → Int32)) t => va_P (dC, dI) vwCl [(aM, .inr (5, [.ref aZ, .ref aPast, .int pastMany, .ref aKz, .int isKept, .ref aBuf, .int typed, .ref aStk, .ref aLaid, .int u.1, .int u.2.1, .ref aPcs, .ref aTold, .int toldMany, .int spot, .int wrong])), (aZ, .inl (cI, 207, .inl u.2.2.1)), (aStk, .inl (cI, 64, .inl u.2.2.2.1)), (aLaid, .inl (cI, 64, .inl u.2.2.2.2))] t.heap ∧ va_K (dC, dI) vwCl (gn_tys cI cC cS) t ∧ va_D (va_A [(aM, .inr (5, [.ref aZ, .ref aPast, .int pastMany, .ref aKz, .int isKept, .ref aBuf, .int typed, .ref aStk, .ref aLaid, .int wid, .int hei, .ref aPcs, .ref aTold, .int toldMany, .int spot, .int wrong])), (aZ, .inl (cI, 207, .inl zz)), (aStk, .inl (cI, 64, .inl stk)), (aLaid, .inl (cI, 64, .inl laid))] sz) [(aM, .inr (5, [.ref aZ, .ref aPast, .int pastMany, .ref aKz, .int isKept, .ref aBuf, .int typed, .ref aStk, .ref aLaid, .int u.1, .int u.2.1, .ref aPcs, .ref aTold, .int toldMany, .int spot, .int wrong])), (aZ, .inl (cI, 207, .inl u.2.2.1)), (aStk, .inl (cI, 64, .inl u.2.2.2.1)), (aLaid, .inl (cI, 64, .inl u.2.2.2.2))]) (va_A [(aM, .inr (5, [.ref aZ, .ref aPast, .int pastMany, .ref aKz, .int isKept, .ref aBuf, .int typed, .ref aStk, .ref aLaid, .int wid, .int hei, .ref aPcs, .ref aTold, .int toldMany, .int spot, .int wrong])), (aZ, .inl (cI, 207, .inl zz)), (aStk, .inl (cI, 64, .inl stk)), (aLaid, .inl (cI, 64, .inl laid))] sz)) 0 0 (va_A [(aM, .inr (5, [.ref aZ, .ref aPast, .int pastMany, .ref aKz, .int isKept, .ref aBuf, .int typed, .ref aStk, .ref aLaid, .int wid, .int hei, .ref aPcs, .ref aTold, .int toldMany, .int spot, .int wrong])), (aZ, .inl (cI, 207, .inl zz)), (aStk, .inl (cI, 64, .inl stk)), (aLaid, .inl (cI, 64, .inl laid))] sz) := by
  unfold wp_X6_makesHoles at hq
  refine Met.ofW (cc := cX6_makesHoles) (maxL := 8) (ret := (some .int)) (by decide) rfl ?_
  intro p e s m args below meth c s₁ B hml hv
  obtain ⟨rfl, hsz, hP, hK, hN, hD0⟩ := hv
  have hx := B.exec
  have hb := B.bytes
  have hr := B.returns
  have hts := atoms_spec (ws := wsX6_makesHoles) B.pre
  have hown : s.vm.findClass RX6 = some m.cls := findClass_of_methodNamed B.named
  have hlocks := B.notSynchronized
  subst hsz
  have hD := hD0.self (sz := s.heap.size)
  generalize hAe : va_A [(aM, .inr (5, [.ref aZ, .ref aPast, .int pastMany, .ref aKz, .int isKept, .ref aBuf, .int typed, .ref aStk, .ref aLaid, .int wid, .int hei, .ref aPcs, .ref aTold, .int toldMany, .int spot, .int wrong])), (aZ, .inl (cI, 207, .inl zz)), (aStk, .inl (cI, 64, .inl stk)), (aLaid, .inl (cI, 64, .inl laid))] s.heap.size = A at hD ⊢
  have hA : ∀ q : Nat, s.heap.size ≤ q → A q := fun q h => by rw [← hAe]; exact Or.inr h
  have hS : va_S A s.heap s.heap [] := va_S.rf
  have hl := lv_entry ([.ref aM, .int x1, .int x2, .int x3] : List Value) (n := 8) (Nat.le_of_ble_eq_true rfl)
  rw [lg_entry_eq]
  generalize (lg_sl ([.ref aM, .int x1, .int x2, .int x3] : List Value) ++ List.replicate (8 - (lg_sl ([.ref aM, .int x1, .int x2, .int x3] : List Value)).length) Slot.unset).toArray = ls at hl ⊢
  have hl : lv_has ls 8 [(0, .ref aM), (1, .int x1), (2, .int x2), (3, .int x3)] := hl
  refine gn_Q (hret := fun Q => ∀ (pc : Nat) (ls : Array Slot) (H : Heap) (locs : List Loc) (r : Int32) (m_wid : Int32) (m_hei : Int32) (m_zz : Nat → Int32) (m_stk : Nat → Int32) (m_laid : Nat → Int32), decode cX6_makesHoles pc = .ok (.ireturn, 1) → va_P (dC, dI) vwCl [(aM, .inr (5, [.ref aZ, .ref aPast, .int pastMany, .ref aKz, .int isKept, .ref aBuf, .int typed, .ref aStk, .ref aLaid, .int m_wid, .int m_hei, .ref aPcs, .ref aTold, .int toldMany, .int spot, .int wrong])), (aZ, .inl (cI, 207, .inl m_zz)), (aStk, .inl (cI, 64, .inl m_stk)), (aLaid, .inl (cI, 64, .inl m_laid))] H → va_D A [(aM, .inr (5, [.ref aZ, .ref aPast, .int pastMany, .ref aKz, .int isKept, .ref aBuf, .int typed, .ref aStk, .ref aLaid, .int m_wid, .int m_hei, .ref aPcs, .ref aTold, .int toldMany, .int spot, .int wrong])), (aZ, .inl (cI, 207, .inl m_zz)), (aStk, .inl (cI, 64, .inl m_stk)), (aLaid, .inl (cI, 64, .inl m_laid))] → va_S A s.heap H locs → post r m_wid m_hei m_zz m_stk m_laid → W p l e ({ frames := 5, cells := 0, slots := 0, locals := 116 } : Room) s m ([.ref aM, .int x1, .int x2, .int x3] : List Value).toArray below meth c H locs 0 0 Q (F0 m pc ls [.int r])) (fun Q hret => ?_) ?_
  rotate_left
  · intro pc ls H locs r m_wid m_hei m_zz m_stk m_laid hdg hP hD hS hpost
    exact W.iret (v := r) hx hb hr (fun t ht hW => ⟨⟨r, (m_wid, m_hei, m_zz, m_stk, m_laid), rfl, hpost, by rw [ht]; exact hP, va_K.moved hW.alike hK, hD⟩, hS.F ht⟩) hS.2.2 hdg
  refine lv_aload_n hx hb dX6_makesHoles_0 rfl (lv_at hl 0 rfl) ?_
  refine lv_iload_n hx hb dX6_makesHoles_1 rfl (lv_at hl 1 rfl) ?_
  refine lv_iload_n hx hb dX6_makesHoles_2 rfl (lv_at hl 2 rfl) ?_
  have hPc := hP.sub (ws' := [(aM, .inr (5, [.ref aZ, .ref aPast, .int pastMany, .ref aKz, .int isKept, .ref aBuf, .int typed, .ref aStk, .ref aLaid, .int wid, .int hei, .ref aPcs, .ref aTold, .int toldMany, .int spot, .int wrong])), (aZ, .inl (cI, 207, .inl zz)), (aStk, .inl (cI, 64, .inl stk)), (aLaid, .inl (cI, 64, .inl laid))]) [0, 1, 2, 3] rfl
  have hDc := hD.sub (ws' := [(aM, .inr (5, [.ref aZ, .ref aPast, .int pastMany, .ref aKz, .int isKept, .ref aBuf, .int typed, .ref aStk, .ref aLaid, .int wid, .int hei, .ref aPcs, .ref aTold, .int toldMany, .int spot, .int wrong])), (aZ, .inl (cI, 207, .inl zz)), (aStk, .inl (cI, 64, .inl stk)), (aLaid, .inl (cI, 64, .inl laid))]) [0, 1, 2, 3] (by decide) rfl
  have hFc := va_free (wc := [(aM, .inr (5, [.ref aZ, .ref aPast, .int pastMany, .ref aKz, .int isKept, .ref aBuf, .int typed, .ref aStk, .ref aLaid, .int wid, .int hei, .ref aPcs, .ref aTold, .int toldMany, .int spot, .int wrong])), (aZ, .inl (cI, 207, .inl zz)), (aStk, .inl (cI, 64, .inl stk)), (aLaid, .inl (cI, 64, .inl laid))]) hD hS hA [0, 1, 2, 3] rfl
  refine va_calli (va_runV (As := [.int x1, .int x2]) (rest := []) ⟨hx, hb, hml, hown, hts⟩ (c_X6_top l dC dI cI cC cS aM aZ aPast aKz aBuf aStk aLaid aPcs aTold _ pastMany isKept typed wid hei toldMany spot wrong zz stk laid x1 x2 hq) (cwV 2 hts gX6_makesHoles_X6_top rfl rfl rfl (by decide +kernel) ⟨Nat.le_of_ble_eq_true rfl, Nat.le_of_ble_eq_true rfl⟩) (gn_preV hPc hK hN hDc (ci := 5) (q0 := 0) rfl rfl) rfl rfl hl.1 rfl (lv_room (Nat.le_of_ble_eq_true rfl)) dX6_makesHoles_3 ⟨Nat.zero_le _, Nat.zero_le _⟩) hS (fun q _ h => hFc q h) hFc (fun r_1 u t H1 locs ht hvm hq hB hz1 hk1 hS => ?_)
  obtain ⟨wid__2, hei__3, stk__4, laid__5⟩ := u
  obtain ⟨hP1, hK1, hD1⟩ := hB
  rw [ht] at hP1
  try dsimp only at hq
  obtain ⟨hP, hD⟩ := va_join (wr := []) (w1 := [(aM, .inr (5, [.ref aZ, .ref aPast, .int pastMany, .ref aKz, .int isKept, .ref aBuf, .int typed, .ref aStk, .ref aLaid, .int wid__2, .int hei__3, .ref aPcs, .ref aTold, .int toldMany, .int spot, .int wrong])), (aZ, .inl (cI, 207, .inl zz)), (aStk, .inl (cI, 64, .inl stk__4)), (aLaid, .inl (cI, 64, .inl laid__5))]) hP hD [0, 1, 2, 3] [] rfl rfl (by decide) (by decide) hk1 hFc hP1 hD1
  have hP := hP.sub (ws' := [(aM, .inr (5, [.ref aZ, .ref aPast, .int pastMany, .ref aKz, .int isKept, .ref aBuf, .int typed, .ref aStk, .ref aLaid, .int wid__2, .int hei__3, .ref aPcs, .ref aTold, .int toldMany, .int spot, .int wrong])), (aZ, .inl (cI, 207, .inl zz)), (aStk, .inl (cI, 64, .inl stk__4)), (aLaid, .inl (cI, 64, .inl laid__5))]) [0, 1, 2, 3] rfl
  have hD := hD.sub (ws' := [(aM, .inr (5, [.ref aZ, .ref aPast, .int pastMany, .ref aKz, .int isKept, .ref aBuf, .int typed, .ref aStk, .ref aLaid, .int wid__2, .int hei__3, .ref aPcs, .ref aTold, .int toldMany, .int spot, .int wrong])), (aZ, .inl (cI, 207, .inl zz)), (aStk, .inl (cI, 64, .inl stk__4)), (aLaid, .inl (cI, 64, .inl laid__5))]) [0, 1, 2, 3] (by decide) rfl
  generalize H1 = H at hP hS ⊢
  refine lv_istore (lv' := [(4, .int r_1), (0, .ref aM), (1, .int x1), (2, .int x2), (3, .int x3)]) hx hb dX6_makesHoles_6 hl (by decide) rfl (fun ls hl => ?_)
  refine lv_iconst (v := 0) hx hb dX6_makesHoles_8 (by decide) ?_
  refine lv_istore (lv' := [(5, .int (0 : Int32)), (4, .int r_1), (0, .ref aM), (1, .int x1), (2, .int x2), (3, .int x3)]) hx hb dX6_makesHoles_9 hl (by decide) rfl (fun ls hl => ?_)
  refine lv_iconst (v := 0) hx hb dX6_makesHoles_11 (by decide) ?_
  refine lv_istore (lv' := [(6, .int (0 : Int32)), (5, .int (0 : Int32)), (4, .int r_1), (0, .ref aM), (1, .int x1), (2, .int x2), (3, .int x3)]) hx hb dX6_makesHoles_12 hl (by decide) rfl (fun ls hl => ?_)
  have hq := hq (fun (v5_6 : Int32) (v6_7 : Int32) (zz__8 : Nat → Int32) => ∀ (H : Heap) (locs : List Loc) (ls : Array Slot), va_P (dC, dI) vwCl [(aM, .inr (5, [.ref aZ, .ref aPast, .int pastMany, .ref aKz, .int isKept, .ref aBuf, .int typed, .ref aStk, .ref aLaid, .int wid__2, .int hei__3, .ref aPcs, .ref aTold, .int toldMany, .int spot, .int wrong])), (aZ, .inl (cI, 207, .inl zz__8)), (aStk, .inl (cI, 64, .inl stk__4)), (aLaid, .inl (cI, 64, .inl laid__5))] H → va_D A [(aM, .inr (5, [.ref aZ, .ref aPast, .int pastMany, .ref aKz, .int isKept, .ref aBuf, .int typed, .ref aStk, .ref aLaid, .int wid__2, .int hei__3, .ref aPcs, .ref aTold, .int toldMany, .int spot, .int wrong])), (aZ, .inl (cI, 207, .inl zz__8)), (aStk, .inl (cI, 64, .inl stk__4)), (aLaid, .inl (cI, 64, .inl laid__5))] → va_S A s.heap H locs → lv_has ls 8 [(0, .ref aM), (3, .int x3), (4, .int r_1), (5, .int v5_6), (6, .int v6_7)] → W p l e ({ frames := 5, cells := 0, slots := 0, locals := 116 } : Room) s m ([.ref aM, .int x1, .int x2, .int x3] : List Value).toArray below meth c H locs 0 0 Q (F0 m 14 ls [])) (by
    intro v5_6 v6_7 zz__8 hq H locs ls hP hD hS hl
    refine lv_iload hx hb dX6_makesHoles_14 (lv_at hl 4 rfl) ?_
    refine lv_iload_n hx hb dX6_makesHoles_16 rfl (lv_at hl 1 rfl) ?_
    refine lv_icmp_ge (tgt := 74) hx hb dX6_makesHoles_17 (by decide) (fun hc => ?_) (fun hc => ?_)
    · have hq := hq.1 hc
      refine lv_iload hx hb dX6_makesHoles_74 (lv_at hl 3 rfl) ?_
      exact hret _ _ _ _ _ _ _ _ _ _ dX6_makesHoles_76 hP hD hS hq
    · have hq := hq.2 hc
      refine lv_aload_n hx hb dX6_makesHoles_20 rfl (lv_at hl 0 rfl) ?_
      refine va_get (D := (dC, dI)) (ci := 5) (v := .ref aStk) (C := RX6) (T := TX6) (N := 16) hx hb hts iwX6_makesHoles_X6 hown hK hP 0 rfl rfl 7 (by decide) (hts _ kwX6_makesHoles_23) (fun _ h9 => h9) rfl dX6_makesHoles_21 ?_
      refine lv_iload hx hb dX6_makesHoles_24 (lv_at hl 2 rfl) ?_
      refine lv_iload hx hb dX6_makesHoles_26 (lv_at hl 4 rfl) ?_
      refine lv_iadd hx hb dX6_makesHoles_28 ?_
      have hin := hq.1
      have hq := hq.2
      refine va_iald hx hb hK hP 2 0 rfl rfl hin dX6_makesHoles_29 ?_
      refine lv_iconst (v := 2) hx hb dX6_makesHoles_30 (by decide) ?_
      refine lv_idiv hx hb dX6_makesHoles_31 (by decide) ?_
      refine lv_topi (fun w7_9 ew7_9 => ?_)
      have hq := hq w7_9 ew7_9
      refine lv_istore (lv' := [(7, .int w7_9), (0, .ref aM), (3, .int x3), (4, .int r_1), (5, .int v5_6), (6, .int v6_7)]) hx hb dX6_makesHoles_32 hl (by decide) rfl (fun ls hl => ?_)
      refine lv_iload hx hb dX6_makesHoles_34 (lv_at hl 4 rfl) ?_
      refine lv_aload_n hx hb dX6_makesHoles_36 rfl (lv_at hl 1 rfl) ?_
      refine va_get (D := (dC, dI)) (ci := 5) (v := .ref aZ) (C := RX6) (T := TX6) (N := 16) hx hb hts iwX6_makesHoles_X6 hown hK hP 0 rfl rfl 0 (by decide) (hts _ kwX6_makesHoles_7) (fun _ h9 => h9) rfl dX6_makesHoles_37 ?_
      refine lv_bipush (v := 7) hx hb dX6_makesHoles_40 (by decide) ?_
      refine lv_iload hx hb dX6_makesHoles_42 (lv_at hl 0 rfl) ?_
      refine lv_iadd hx hb dX6_makesHoles_44 ?_
      have hin := hq.1
      have hq := hq.2
      refine va_iald hx hb hK hP 1 0 rfl rfl hin dX6_makesHoles_45 ?_
      have hq := hq (fun (t_10 : Int32) => ∀ (H : Heap) (locs : List Loc) (ls : Array Slot), va_P (dC, dI) vwCl [(aM, .inr (5, [.ref aZ, .ref aPast, .int pastMany, .ref aKz, .int isKept, .ref aBuf, .int typed, .ref aStk, .ref aLaid, .int wid__2, .int hei__3, .ref aPcs, .ref aTold, .int toldMany, .int spot, .int wrong])), (aZ, .inl (cI, 207, .inl zz__8)), (aStk, .inl (cI, 64, .inl stk__4)), (aLaid, .inl (cI, 64, .inl laid__5))] H → va_D A [(aM, .inr (5, [.ref aZ, .ref aPast, .int pastMany, .ref aKz, .int isKept, .ref aBuf, .int typed, .ref aStk, .ref aLaid, .int wid__2, .int hei__3, .ref aPcs, .ref aTold, .int toldMany, .int spot, .int wrong])), (aZ, .inl (cI, 207, .inl zz__8)), (aStk, .inl (cI, 64, .inl stk__4)), (aLaid, .inl (cI, 64, .inl laid__5))] → va_S A s.heap H locs → lv_has ls 8 [(0, .ref aM), (3, .int x3), (4, .int r_1), (6, .int v6_7), (7, .int w7_9)] → W p l e ({ frames := 5, cells := 0, slots := 0, locals := 116 } : Room) s m ([.ref aM, .int x1, .int x2, .int x3] : List Value).toArray below meth c H locs 0 0 Q (F0 m 54 ls [.int t_10, .int v5_6])) (by
        intro t_10 hq H locs ls hP hD hS hl
        refine lv_iadd hx hb dX6_makesHoles_54 ?_
        refine lv_topi (fun w5_11 ew5_11 => ?_)
        have hq := hq w5_11 ew5_11
        refine lv_istore (lv' := [(5, .int w5_11), (0, .ref aM), (3, .int x3), (4, .int r_1), (6, .int v6_7), (7, .int w7_9)]) hx hb dX6_makesHoles_55 hl (by decide) rfl (fun ls hl => ?_)
        refine lv_aload_n hx hb dX6_makesHoles_57 rfl (lv_at hl 1 rfl) ?_
        refine va_get (D := (dC, dI)) (ci := 5) (v := .ref aZ) (C := RX6) (T := TX6) (N := 16) hx hb hts iwX6_makesHoles_X6 hown hK hP 0 rfl rfl 0 (by decide) (hts _ kwX6_makesHoles_7) (fun _ h9 => h9) rfl dX6_makesHoles_58 ?_
        refine lv_bipush (v := 7) hx hb dX6_makesHoles_61 (by decide) ?_
        refine lv_iload hx hb dX6_makesHoles_63 (lv_at hl 5 rfl) ?_
        refine lv_iadd hx hb dX6_makesHoles_65 ?_
        refine lv_iconst (v := 1) hx hb dX6_makesHoles_66 (by decide) ?_
        have hin := hq.1
        have hq := hq.2
        refine va_iast hx hb hK hP hD hS 1 0 rfl rfl hin dX6_makesHoles_67 (fun H locs hP hD hS => ?_)
        have hP : va_P (dC, dI) vwCl [(aM, .inr (5, [.ref aZ, .ref aPast, .int pastMany, .ref aKz, .int isKept, .ref aBuf, .int typed, .ref aStk, .ref aLaid, .int wid__2, .int hei__3, .ref aPcs, .ref aTold, .int toldMany, .int spot, .int wrong])), (aZ, .inl (cI, 207, .inl (upd zz__8 (((7 : Int32) + w7_9)).toNatClampNeg (1 : Int32)))), (aStk, .inl (cI, 64, .inl stk__4)), (aLaid, .inl (cI, 64, .inl laid__5))] H := hP
        have hD : va_D A [(aM, .inr (5, [.ref aZ, .ref aPast, .int pastMany, .ref aKz, .int isKept, .ref aBuf, .int typed, .ref aStk, .ref aLaid, .int wid__2, .int hei__3, .ref aPcs, .ref aTold, .int toldMany, .int spot, .int wrong])), (aZ, .inl (cI, 207, .inl (upd zz__8 (((7 : Int32) + w7_9)).toNatClampNeg (1 : Int32)))), (aStk, .inl (cI, 64, .inl stk__4)), (aLaid, .inl (cI, 64, .inl laid__5))] := hD
        refine lv_iinc (v := (v6_7 + (1 : Int32))) (lv' := [(6, .int (v6_7 + (1 : Int32))), (5, .int w5_11), (0, .ref aM), (3, .int x3), (4, .int r_1), (7, .int w7_9)]) hx hb dX6_makesHoles_68 hl (k := 4) rfl rfl (by decide) rfl (fun ls hl => ?_)
        refine lv_goto (tgt := 14) hx hb dX6_makesHoles_71 (by decide) ?_
        exact hq _ _ _ hP hD hS (lv_sub hl [2, 3, 4, 1, 0] rfl))
      refine lv_if_ne (tgt := 53) hx hb dX6_makesHoles_46 (by decide) (fun hc => ?_) (fun hc => ?_)
      · have hq := hq.1 hc
        refine lv_iconst (v := 0) hx hb dX6_makesHoles_53 (by decide) ?_
        exact hq _ _ _ hP hD hS (lv_sub hl [1, 2, 3, 5, 0] rfl)
      · have hq := hq.2 hc
        refine lv_iconst (v := 1) hx hb dX6_makesHoles_49 (by decide) ?_
        refine lv_goto (tgt := 54) hx hb dX6_makesHoles_50 (by decide) ?_
        exact hq _ _ _ hP hD hS (lv_sub hl [1, 2, 3, 5, 0] rfl))
  exact hq _ _ _ hP hD hS (lv_sub hl [3, 6, 2, 1, 0] rfl)
set_option maxHeartbeats 4000000 in
set_option maxRecDepth 100000 in
theorem c_X6_punch (l : Launch) (dC : Nat → ClassId) (dI : Nat → Nat → Nat) (cI cC cS : ClassId) (aM : Nat) (aZ : Nat) (aPast : Nat) (aKz : Nat) (aBuf : Nat) (aStk : Nat) (aLaid : Nat) (aPcs : Nat) (aTold : Nat) (sz : Nat) (pastMany : Int32) (isKept : Int32) (typed : Int32) (wid : Int32) (hei : Int32) (toldMany : Int32) (spot : Int32) (wrong : Int32) (zz : Nat → Int32) (past : Nat → Int32) (stk : Nat → Int32) (laid : Nat → Int32) (x1 : Int32) (x2 : Int32) (x3 : Int32) {post : Int32 → Int32 → Int32 → Int32 → (Nat → Int32) → (Nat → Int32) → (Nat → Int32) → (Nat → Int32) → Prop} (hq : wp_X6_punch pastMany wid hei zz past stk laid x1 x2 x3 post) : Met l yX6_punch wsX6_punch ({ frames := 6, cells := 0, slots := 0, locals := 143 } : Room) (gn_Pre (dC, dI) cI cC cS [.ref aM, .int x1, .int x2, .int x3] sz [(aM, .inr (5, [.ref aZ, .ref aPast, .int pastMany, .ref aKz, .int isKept, .ref aBuf, .int typed, .ref aStk, .ref aLaid, .int wid, .int hei, .ref aPcs, .ref aTold, .int toldMany, .int spot, .int wrong])), (aZ, .inl (cI, 207, .inl zz)), (aPast, .inl (cI, 1035, .inl past)), (aStk, .inl (cI, 64, .inl stk)), (aLaid, .inl (cI, 64, .inl laid))]) (va_Qi (fun (r : Int32) (u : Int32 × Int32 × Int32 × (Nat → Int32) × (Nat → Int32) × (Nat → Int32) × (Nat → Int32)) => post r u.1 u.2.1 u.2.2.1 u.2.2.2.1 u.2.2.2.2.1 u.2.2.2.2.2.1 u.2.2.2.2.2.2) (fun (u : Int32 × Int32 × Int32 × (Nat → Int32) × (Nat → Int32) × (Nat → Int32) × (Nat → Int32)) t => va_P (dC, dI) vwCl [(aM, .inr (5, [.ref aZ, .ref aPast, .int u.1, .ref aKz, .int isKept, .ref aBuf, .int typed, .ref aStk, .ref aLaid, .int u.2.1, .int u.2.2.1, .ref aPcs, .ref aTold, .int toldMany, .int spot, .int wrong])), (aZ, .inl (cI, 207, .inl u.2.2.2.1)), (aPast, .inl (cI, 1035, .inl u.2.2.2.2.1)), (aStk, .inl (cI, 64, .inl u.2.2.2.2.2.1)), (aLaid, .inl (cI, 64, .inl u.2.2.2.2.2.2))] t.heap ∧ va_K (dC, dI) vwCl (gn_tys cI cC cS) t ∧ va_D (va_A [(aM, .inr (5, [.ref aZ, .ref aPast, .int pastMany, .ref aKz, .int isKept, .ref aBuf, .int typed, .ref aStk, .ref aLaid, .int wid, .int hei, .ref aPcs, .ref aTold, .int toldMany, .int spot, .int wrong])), (aZ, .inl (cI, 207, .inl zz)), (aPast, .inl (cI, 1035, .inl past)), (aStk, .inl (cI, 64, .inl stk)), (aLaid, .inl (cI, 64, .inl laid))] sz) [(aM, .inr (5, [.ref aZ, .ref aPast, .int u.1, .ref aKz, .int isKept, .ref aBuf, .int typed, .ref aStk, .ref aLaid, .int u.2.1, .int u.2.2.1, .ref aPcs, .ref aTold, .int toldMany, .int spot, .int wrong])), (aZ, .inl (cI, 207, .inl u.2.2.2.1)), (aPast, .inl (cI, 1035, .inl u.2.2.2.2.1)), (aStk, .inl (cI, 64, .inl u.2.2.2.2.2.1)), (aLaid, .inl (cI, 64, .inl u.2.2.2.2.2.2))]) (va_A [(aM, .inr (5, [.ref aZ, .ref aPast, .int pastMany, .ref aKz, .int isKept, .ref aBuf, .int typed, .ref aStk, .ref aLaid, .int wid, .int hei, .ref aPcs, .ref aTold, .int toldMany, .int spot, .int wrong])), (aZ, .inl (cI, 207, .inl zz)), (aPast, .inl (cI, 1035, .inl past)), (aStk, .inl (cI, 64, .inl stk)), (aLaid, .inl (cI, 64, .inl laid))] sz)) 0 0 (va_A [(aM, .inr (5, [.ref aZ, .ref aPast, .int pastMany, .ref aKz, .int isKept, .ref aBuf, .int typed, .ref aStk, .ref aLaid, .int wid, .int hei, .ref aPcs, .ref aTold, .int toldMany, .int spot, .int wrong])), (aZ, .inl (cI, 207, .inl zz)), (aPast, .inl (cI, 1035, .inl past)), (aStk, .inl (cI, 64, .inl stk)), (aLaid, .inl (cI, 64, .inl laid))] sz) := by
  unfold wp_X6_punch at hq
  refine Met.ofW (cc := cX6_punch) (maxL := 5) (ret := (some .int)) (by decide) rfl ?_
  intro p e s m args below meth c s₁ B hml hv
  obtain ⟨rfl, hsz, hP, hK, hN, hD0⟩ := hv
  have hx := B.exec
  have hb := B.bytes
  have hr := B.returns
  have hts := atoms_spec (ws := wsX6_punch) B.pre
  have hown : s.vm.findClass RX6 = some m.cls := findClass_of_methodNamed B.named
  have hlocks := B.notSynchronized
  subst hsz
  have hD := hD0.self (sz := s.heap.size)
  generalize hAe : va_A [(aM, .inr (5, [.ref aZ, .ref aPast, .int pastMany, .ref aKz, .int isKept, .ref aBuf, .int typed, .ref aStk, .ref aLaid, .int wid, .int hei, .ref aPcs, .ref aTold, .int toldMany, .int spot, .int wrong])), (aZ, .inl (cI, 207, .inl zz)), (aPast, .inl (cI, 1035, .inl past)), (aStk, .inl (cI, 64, .inl stk)), (aLaid, .inl (cI, 64, .inl laid))] s.heap.size = A at hD ⊢
  have hA : ∀ q : Nat, s.heap.size ≤ q → A q := fun q h => by rw [← hAe]; exact Or.inr h
  have hS : va_S A s.heap s.heap [] := va_S.rf
  have hl := lv_entry ([.ref aM, .int x1, .int x2, .int x3] : List Value) (n := 5) (Nat.le_of_ble_eq_true rfl)
  rw [lg_entry_eq]
  generalize (lg_sl ([.ref aM, .int x1, .int x2, .int x3] : List Value) ++ List.replicate (5 - (lg_sl ([.ref aM, .int x1, .int x2, .int x3] : List Value)).length) Slot.unset).toArray = ls at hl ⊢
  have hl : lv_has ls 5 [(0, .ref aM), (1, .int x1), (2, .int x2), (3, .int x3)] := hl
  refine gn_Q (hret := fun Q => ∀ (pc : Nat) (ls : Array Slot) (H : Heap) (locs : List Loc) (r : Int32) (m_pastMany : Int32) (m_wid : Int32) (m_hei : Int32) (m_zz : Nat → Int32) (m_past : Nat → Int32) (m_stk : Nat → Int32) (m_laid : Nat → Int32), decode cX6_punch pc = .ok (.ireturn, 1) → va_P (dC, dI) vwCl [(aM, .inr (5, [.ref aZ, .ref aPast, .int m_pastMany, .ref aKz, .int isKept, .ref aBuf, .int typed, .ref aStk, .ref aLaid, .int m_wid, .int m_hei, .ref aPcs, .ref aTold, .int toldMany, .int spot, .int wrong])), (aZ, .inl (cI, 207, .inl m_zz)), (aPast, .inl (cI, 1035, .inl m_past)), (aStk, .inl (cI, 64, .inl m_stk)), (aLaid, .inl (cI, 64, .inl m_laid))] H → va_D A [(aM, .inr (5, [.ref aZ, .ref aPast, .int m_pastMany, .ref aKz, .int isKept, .ref aBuf, .int typed, .ref aStk, .ref aLaid, .int m_wid, .int m_hei, .ref aPcs, .ref aTold, .int toldMany, .int spot, .int wrong])), (aZ, .inl (cI, 207, .inl m_zz)), (aPast, .inl (cI, 1035, .inl m_past)), (aStk, .inl (cI, 64, .inl m_stk)), (aLaid, .inl (cI, 64, .inl m_laid))] → va_S A s.heap H locs → post r m_pastMany m_wid m_hei m_zz m_past m_stk m_laid → W p l e ({ frames := 6, cells := 0, slots := 0, locals := 143 } : Room) s m ([.ref aM, .int x1, .int x2, .int x3] : List Value).toArray below meth c H locs 0 0 Q (F0 m pc ls [.int r])) (fun Q hret => ?_) ?_
  rotate_left
  · intro pc ls H locs r m_pastMany m_wid m_hei m_zz m_past m_stk m_laid hdg hP hD hS hpost
    exact W.iret (v := r) hx hb hr (fun t ht hW => ⟨⟨r, (m_pastMany, m_wid, m_hei, m_zz, m_past, m_stk, m_laid), rfl, hpost, by rw [ht]; exact hP, va_K.moved hW.alike hK, hD⟩, hS.F ht⟩) hS.2.2 hdg
  refine lv_aload_n hx hb dX6_punch_0 rfl (lv_at hl 0 rfl) ?_
  refine lv_iload_n hx hb dX6_punch_1 rfl (lv_at hl 1 rfl) ?_
  refine lv_iload_n hx hb dX6_punch_2 rfl (lv_at hl 2 rfl) ?_
  refine lv_iload_n hx hb dX6_punch_3 rfl (lv_at hl 3 rfl) ?_
  have hPc := hP.sub (ws' := [(aM, .inr (5, [.ref aZ, .ref aPast, .int pastMany, .ref aKz, .int isKept, .ref aBuf, .int typed, .ref aStk, .ref aLaid, .int wid, .int hei, .ref aPcs, .ref aTold, .int toldMany, .int spot, .int wrong])), (aZ, .inl (cI, 207, .inl zz)), (aStk, .inl (cI, 64, .inl stk)), (aLaid, .inl (cI, 64, .inl laid))]) [0, 1, 3, 4] rfl
  have hDc := hD.sub (ws' := [(aM, .inr (5, [.ref aZ, .ref aPast, .int pastMany, .ref aKz, .int isKept, .ref aBuf, .int typed, .ref aStk, .ref aLaid, .int wid, .int hei, .ref aPcs, .ref aTold, .int toldMany, .int spot, .int wrong])), (aZ, .inl (cI, 207, .inl zz)), (aStk, .inl (cI, 64, .inl stk)), (aLaid, .inl (cI, 64, .inl laid))]) [0, 1, 3, 4] (by decide) rfl
  have hFc := va_free (wc := [(aM, .inr (5, [.ref aZ, .ref aPast, .int pastMany, .ref aKz, .int isKept, .ref aBuf, .int typed, .ref aStk, .ref aLaid, .int wid, .int hei, .ref aPcs, .ref aTold, .int toldMany, .int spot, .int wrong])), (aZ, .inl (cI, 207, .inl zz)), (aStk, .inl (cI, 64, .inl stk)), (aLaid, .inl (cI, 64, .inl laid))]) hD hS hA [0, 1, 3, 4] rfl
  refine va_calli (va_runV (As := [.int x1, .int x2, .int x3]) (rest := []) ⟨hx, hb, hml, hown, hts⟩ (c_X6_whyNotPunch l dC dI cI cC cS aM aZ aPast aKz aBuf aStk aLaid aPcs aTold _ pastMany isKept typed wid hei toldMany spot wrong zz stk laid x1 x2 x3 hq) (cwV 3 hts gX6_punch_X6_whyNotPunch rfl rfl rfl (by decide +kernel) ⟨Nat.le_of_ble_eq_true rfl, Nat.le_of_ble_eq_true rfl⟩) (gn_preV hPc hK hN hDc (ci := 5) (q0 := 0) rfl rfl) rfl rfl hl.1 rfl (lv_room (Nat.le_of_ble_eq_true rfl)) dX6_punch_4 ⟨Nat.zero_le _, Nat.zero_le _⟩) hS (fun q _ h => hFc q h) hFc (fun r_1 u t H1 locs ht hvm hq hB hz1 hk1 hS => ?_)
  obtain ⟨wid__2, hei__3, stk__4, laid__5⟩ := u
  obtain ⟨hP1, hK1, hD1⟩ := hB
  rw [ht] at hP1
  try dsimp only at hq
  obtain ⟨hP, hD⟩ := va_join (wr := [(aPast, .inl (cI, 1035, .inl past))]) (w1 := [(aM, .inr (5, [.ref aZ, .ref aPast, .int pastMany, .ref aKz, .int isKept, .ref aBuf, .int typed, .ref aStk, .ref aLaid, .int wid__2, .int hei__3, .ref aPcs, .ref aTold, .int toldMany, .int spot, .int wrong])), (aZ, .inl (cI, 207, .inl zz)), (aStk, .inl (cI, 64, .inl stk__4)), (aLaid, .inl (cI, 64, .inl laid__5))]) hP hD [0, 1, 3, 4] [2] rfl rfl (by decide) (by decide) hk1 hFc hP1 hD1
  have hP := hP.sub (ws' := [(aM, .inr (5, [.ref aZ, .ref aPast, .int pastMany, .ref aKz, .int isKept, .ref aBuf, .int typed, .ref aStk, .ref aLaid, .int wid__2, .int hei__3, .ref aPcs, .ref aTold, .int toldMany, .int spot, .int wrong])), (aZ, .inl (cI, 207, .inl zz)), (aPast, .inl (cI, 1035, .inl past)), (aStk, .inl (cI, 64, .inl stk__4)), (aLaid, .inl (cI, 64, .inl laid__5))]) [1, 2, 0, 3, 4] rfl
  have hD := hD.sub (ws' := [(aM, .inr (5, [.ref aZ, .ref aPast, .int pastMany, .ref aKz, .int isKept, .ref aBuf, .int typed, .ref aStk, .ref aLaid, .int wid__2, .int hei__3, .ref aPcs, .ref aTold, .int toldMany, .int spot, .int wrong])), (aZ, .inl (cI, 207, .inl zz)), (aPast, .inl (cI, 1035, .inl past)), (aStk, .inl (cI, 64, .inl stk__4)), (aLaid, .inl (cI, 64, .inl laid__5))]) [1, 2, 0, 3, 4] (by decide) rfl
  generalize H1 = H at hP hS ⊢
  refine lv_istore (lv' := [(4, .int r_1), (0, .ref aM), (1, .int x1), (2, .int x2), (3, .int x3)]) hx hb dX6_punch_7 hl (by decide) rfl (fun ls hl => ?_)
  refine lv_iload hx hb dX6_punch_9 (lv_at hl 0 rfl) ?_
  refine lv_if_ge (tgt := 17) hx hb dX6_punch_11 (by decide) (fun hc => ?_) (fun hc => ?_)
  · have hq := hq.1 hc
    refine lv_aload_n hx hb dX6_punch_17 rfl (lv_at hl 1 rfl) ?_
    have hPc := hP.sub (ws' := [(aM, .inr (5, [.ref aZ, .ref aPast, .int pastMany, .ref aKz, .int isKept, .ref aBuf, .int typed, .ref aStk, .ref aLaid, .int wid__2, .int hei__3, .ref aPcs, .ref aTold, .int toldMany, .int spot, .int wrong])), (aZ, .inl (cI, 207, .inl zz)), (aPast, .inl (cI, 1035, .inl past))]) [0, 1, 2] rfl
    have hDc := hD.sub (ws' := [(aM, .inr (5, [.ref aZ, .ref aPast, .int pastMany, .ref aKz, .int isKept, .ref aBuf, .int typed, .ref aStk, .ref aLaid, .int wid__2, .int hei__3, .ref aPcs, .ref aTold, .int toldMany, .int spot, .int wrong])), (aZ, .inl (cI, 207, .inl zz)), (aPast, .inl (cI, 1035, .inl past))]) [0, 1, 2] (by decide) rfl
    have hFc := va_free (wc := [(aM, .inr (5, [.ref aZ, .ref aPast, .int pastMany, .ref aKz, .int isKept, .ref aBuf, .int typed, .ref aStk, .ref aLaid, .int wid__2, .int hei__3, .ref aPcs, .ref aTold, .int toldMany, .int spot, .int wrong])), (aZ, .inl (cI, 207, .inl zz)), (aPast, .inl (cI, 1035, .inl past))]) hD hS hA [0, 1, 2] rfl
    refine va_callv (va_runV (As := []) (rest := []) ⟨hx, hb, hml, hown, hts⟩ (c_X6_record l dC dI cI cC cS aM aZ aPast aKz aBuf aStk aLaid aPcs aTold _ pastMany isKept typed wid__2 hei__3 toldMany spot wrong zz past hq) (cwV 0 hts gX6_punch_X6_record rfl rfl rfl (by decide +kernel) ⟨Nat.le_of_ble_eq_true rfl, Nat.le_of_ble_eq_true rfl⟩) (gn_preV hPc hK hN hDc (ci := 5) (q0 := 0) rfl rfl) rfl rfl hl.1 rfl (lv_room (Nat.le_of_ble_eq_true rfl)) dX6_punch_18 ⟨Nat.zero_le _, Nat.zero_le _⟩) hS (fun q _ h => hFc q h) hFc (fun u t H1 locs ht hvm hq hB hz1 hk1 hS => ?_)
    obtain ⟨pastMany__6, past__7⟩ := u
    obtain ⟨hP1, hK1, hD1⟩ := hB
    rw [ht] at hP1
    try dsimp only at hq
    obtain ⟨hP, hD⟩ := va_join (wr := [(aStk, .inl (cI, 64, .inl stk__4)), (aLaid, .inl (cI, 64, .inl laid__5))]) (w1 := [(aM, .inr (5, [.ref aZ, .ref aPast, .int pastMany__6, .ref aKz, .int isKept, .ref aBuf, .int typed, .ref aStk, .ref aLaid, .int wid__2, .int hei__3, .ref aPcs, .ref aTold, .int toldMany, .int spot, .int wrong])), (aZ, .inl (cI, 207, .inl zz)), (aPast, .inl (cI, 1035, .inl past__7))]) hP hD [0, 1, 2] [3, 4] rfl rfl (by decide) (by decide) hk1 hFc hP1 hD1
    have hP := hP.sub (ws' := [(aM, .inr (5, [.ref aZ, .ref aPast, .int pastMany__6, .ref aKz, .int isKept, .ref aBuf, .int typed, .ref aStk, .ref aLaid, .int wid__2, .int hei__3, .ref aPcs, .ref aTold, .int toldMany, .int spot, .int wrong])), (aZ, .inl (cI, 207, .inl zz)), (aPast, .inl (cI, 1035, .inl past__7)), (aStk, .inl (cI, 64, .inl stk__4)), (aLaid, .inl (cI, 64, .inl laid__5))]) [2, 3, 4, 0, 1] rfl
    have hD := hD.sub (ws' := [(aM, .inr (5, [.ref aZ, .ref aPast, .int pastMany__6, .ref aKz, .int isKept, .ref aBuf, .int typed, .ref aStk, .ref aLaid, .int wid__2, .int hei__3, .ref aPcs, .ref aTold, .int toldMany, .int spot, .int wrong])), (aZ, .inl (cI, 207, .inl zz)), (aPast, .inl (cI, 1035, .inl past__7)), (aStk, .inl (cI, 64, .inl stk__4)), (aLaid, .inl (cI, 64, .inl laid__5))]) [2, 3, 4, 0, 1] (by decide) rfl
    generalize H1 = H at hP hS ⊢
    refine lv_aload_n hx hb dX6_punch_21 rfl (lv_at hl 1 rfl) ?_
    refine lv_iload_n hx hb dX6_punch_22 rfl (lv_at hl 2 rfl) ?_
    refine lv_iload_n hx hb dX6_punch_23 rfl (lv_at hl 3 rfl) ?_
    refine lv_iload_n hx hb dX6_punch_24 rfl (lv_at hl 4 rfl) ?_
    have hPc := hP.sub (ws' := [(aM, .inr (5, [.ref aZ, .ref aPast, .int pastMany__6, .ref aKz, .int isKept, .ref aBuf, .int typed, .ref aStk, .ref aLaid, .int wid__2, .int hei__3, .ref aPcs, .ref aTold, .int toldMany, .int spot, .int wrong])), (aZ, .inl (cI, 207, .inl zz)), (aStk, .inl (cI, 64, .inl stk__4)), (aLaid, .inl (cI, 64, .inl laid__5))]) [0, 1, 3, 4] rfl
    have hDc := hD.sub (ws' := [(aM, .inr (5, [.ref aZ, .ref aPast, .int pastMany__6, .ref aKz, .int isKept, .ref aBuf, .int typed, .ref aStk, .ref aLaid, .int wid__2, .int hei__3, .ref aPcs, .ref aTold, .int toldMany, .int spot, .int wrong])), (aZ, .inl (cI, 207, .inl zz)), (aStk, .inl (cI, 64, .inl stk__4)), (aLaid, .inl (cI, 64, .inl laid__5))]) [0, 1, 3, 4] (by decide) rfl
    have hFc := va_free (wc := [(aM, .inr (5, [.ref aZ, .ref aPast, .int pastMany__6, .ref aKz, .int isKept, .ref aBuf, .int typed, .ref aStk, .ref aLaid, .int wid__2, .int hei__3, .ref aPcs, .ref aTold, .int toldMany, .int spot, .int wrong])), (aZ, .inl (cI, 207, .inl zz)), (aStk, .inl (cI, 64, .inl stk__4)), (aLaid, .inl (cI, 64, .inl laid__5))]) hD hS hA [0, 1, 3, 4] rfl
    refine va_calli (va_runV (As := [.int x1, .int x2, .int x3]) (rest := []) ⟨hx, hb, hml, hown, hts⟩ (c_X6_makesHoles l dC dI cI cC cS aM aZ aPast aKz aBuf aStk aLaid aPcs aTold _ pastMany__6 isKept typed wid__2 hei__3 toldMany spot wrong zz stk__4 laid__5 x1 x2 x3 hq) (cwV 3 hts gX6_punch_X6_makesHoles rfl rfl rfl (by decide +kernel) ⟨Nat.le_of_ble_eq_true rfl, Nat.le_of_ble_eq_true rfl⟩) (gn_preV hPc hK hN hDc (ci := 5) (q0 := 0) rfl rfl) rfl rfl hl.1 rfl (lv_room (Nat.le_of_ble_eq_true rfl)) dX6_punch_25 ⟨Nat.zero_le _, Nat.zero_le _⟩) hS (fun q _ h => hFc q h) hFc (fun r_8 u t H1 locs ht hvm hq hB hz1 hk1 hS => ?_)
    obtain ⟨wid__9, hei__10, zz__11, stk__12, laid__13⟩ := u
    obtain ⟨hP1, hK1, hD1⟩ := hB
    rw [ht] at hP1
    try dsimp only at hq
    obtain ⟨hP, hD⟩ := va_join (wr := [(aPast, .inl (cI, 1035, .inl past__7))]) (w1 := [(aM, .inr (5, [.ref aZ, .ref aPast, .int pastMany__6, .ref aKz, .int isKept, .ref aBuf, .int typed, .ref aStk, .ref aLaid, .int wid__9, .int hei__10, .ref aPcs, .ref aTold, .int toldMany, .int spot, .int wrong])), (aZ, .inl (cI, 207, .inl zz__11)), (aStk, .inl (cI, 64, .inl stk__12)), (aLaid, .inl (cI, 64, .inl laid__13))]) hP hD [0, 1, 3, 4] [2] rfl rfl (by decide) (by decide) hk1 hFc hP1 hD1
    have hP := hP.sub (ws' := [(aM, .inr (5, [.ref aZ, .ref aPast, .int pastMany__6, .ref aKz, .int isKept, .ref aBuf, .int typed, .ref aStk, .ref aLaid, .int wid__9, .int hei__10, .ref aPcs, .ref aTold, .int toldMany, .int spot, .int wrong])), (aZ, .inl (cI, 207, .inl zz__11)), (aPast, .inl (cI, 1035, .inl past__7)), (aStk, .inl (cI, 64, .inl stk__12)), (aLaid, .inl (cI, 64, .inl laid__13))]) [1, 2, 0, 3, 4] rfl
    have hD := hD.sub (ws' := [(aM, .inr (5, [.ref aZ, .ref aPast, .int pastMany__6, .ref aKz, .int isKept, .ref aBuf, .int typed, .ref aStk, .ref aLaid, .int wid__9, .int hei__10, .ref aPcs, .ref aTold, .int toldMany, .int spot, .int wrong])), (aZ, .inl (cI, 207, .inl zz__11)), (aPast, .inl (cI, 1035, .inl past__7)), (aStk, .inl (cI, 64, .inl stk__12)), (aLaid, .inl (cI, 64, .inl laid__13))]) [1, 2, 0, 3, 4] (by decide) rfl
    generalize H1 = H at hP hS ⊢
    exact hret _ _ _ _ _ _ _ _ _ _ _ _ dX6_punch_28 hP hD hS hq
  · have hq := hq.2 hc
    refine lv_iload hx hb dX6_punch_14 (lv_at hl 0 rfl) ?_
    exact hret _ _ _ _ _ _ _ _ _ _ _ _ dX6_punch_16 hP hD hS hq
