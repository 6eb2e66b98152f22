def wp_sg_best1 (vt : Nat → Int32) (vg : Nat → Int32) (k25 : Int32) (k26 : Int32) (k27 : Int32) (post1391 : Int32 → Int32 → Int32 → (Nat → Int32) → Prop) (post1397 : Int32 → Int32 → Int32 → (Nat → Int32) → Prop) : Prop :=
  (((64 : Int32) ≤ k27) → post1397 k25 k26 k27 vg) ∧ ((¬ (64 : Int32) ≤ k27) → ∀ w28_1 : Int32, w28_1 = (k27 / (8 : Int32)) → ∀ w29_2 : Int32, w29_2 = (k27 - k27 / (8 : Int32) * (8 : Int32)) → ((w28_1 < w29_2) → post1391 k25 k26 k27 vg) ∧ ((¬ w28_1 < w29_2) → (((3 : Int32) < w29_2) → post1391 k25 k26 k27 vg) ∧ ((¬ (3 : Int32) < w29_2) → (((3 : Int32) < (w28_1 - w29_2)) → post1391 k25 k26 k27 vg) ∧ ((¬ (3 : Int32) < (w28_1 - w29_2)) → ∀ (P1284 : Int32 → (Nat → Int32) → Prop), (∀ (v30_3 : Int32) (vg__4 : Nat → Int32), ((((6 : Int32) ≤ v30_3) → vp_in (6 : Int32) 7 ∧ (wp_L_punches (upd vg__4 ((6 : Int32)).toNatClampNeg w28_1) vt (fun r_5 => ∀ (P1352 : Int32 → Prop), (∀ (t_6 : Int32), (∀ (P1375 : Int32 → Prop), (∀ (t_7 : Int32), (∀ (P1389 : Int32 → Prop), (∀ (t_8 : Int32), (post1391 t_7 t_8 k27 (upd vg__4 ((6 : Int32)).toNatClampNeg w28_1)) → P1389 t_8) → ((t_6 = 0) → P1389 k26) ∧ ((¬ t_6 = 0) → P1389 r_5)) → P1375 t_7) → ((t_6 = 0) → P1375 k25) ∧ ((¬ t_6 = 0) → P1375 ((((10 : Int32) * w29_2) + w28_1) - w29_2))) → P1352 t_6) → ∀ (P1351 : Prop), ((P1352 (0 : Int32)) → P1351 ) → ((r_5 < 0) → P1351) ∧ ((¬ r_5 < 0) → ∀ (P1347 : Prop), ((P1352 (1 : Int32)) → P1347 ) → ((k25 < 0) → P1347) ∧ ((¬ k25 < 0) → ((k26 ≤ r_5) → P1351) ∧ ((¬ k26 ≤ r_5) → P1347)))))) ∧ ((¬ (6 : Int32) ≤ v30_3) → ∀ (P1307 : Int32 → Prop), (∀ (t_9 : Int32), (vp_in v30_3 7 ∧ (P1284 (v30_3 + (1 : Int32)) (upd vg__4 (v30_3).toNatClampNeg t_9))) → P1307 t_9) → ((w29_2 ≤ v30_3) → P1307 (3 : Int32)) ∧ ((¬ w29_2 ≤ v30_3) → P1307 (1 : Int32)))) → P1284 v30_3 vg__4) → P1284 (0 : Int32) vg))))

set_option maxHeartbeats 8000000 in
set_option maxRecDepth 100000 in
theorem sg_best1 {p : Program} {l : Launch} {e : Env} {s : State} {m : MethodId} {below : List Frame} {meth : Method} {c : Code} {A : Nat → Prop} {dC : Nat → ClassId} {dI : Nat → Nat → Nat} {cI cC cS : ClassId} {b L : Nat} {xs : Nat → Int32} {Q : State → Prop} (hL : L ≤ 260) (C0 : lw_At p s m meth c b L xs) (hA : ∀ q : Nat, s.heap.size ≤ q → A q) (hbA : ¬ A b) (hN : gn_nw s) (hK : va_K (dC, dI) vwCl (gn_tys cI cC cS) s) (aR : Nat) (naS : Nat) (naC : Nat) (naF : Nat) (naK : Nat) (saS : Nat) (saC : Nat) (saF : Nat) (saK : Nat) (aHi : Nat) (aHA : Nat) (jS : Nat → Nat) (jC : Nat → Nat) (jF : Nat → Nat) (jK : Nat → Nat) (taF : Nat) (taK : Nat) (aT : Nat) (aCH : Nat) (lf : Nat) (lh : Nat) (lu : Nat) (ld : Nat) (lt : Nat) (lg : Nat) (isSaved : Int32) (npat : Int64) (ngoal : Int64) (ncol : Nat → Int32) (nmade : Int32) (nmac : Int32) (nks : Nat → Int32) (spat : Int64) (sgoal : Int64) (scol : Nat → Int32) (smade : Int32) (smac : Int32) (sks : Nat → Int32) (hkept : Int32) (hks : Nat → Nat → Int32) (hmade : Nat → Int32) (hmac : Nat → Int32) (hcol : Nat → Nat → Int32) (hpat : Nat → Int64) (hgoal : Nat → Int64) (tmade : Int32) (tmac : Int32) (tks : Nat → Int32) (wlen : Int32) (wpos : Int32) (wlet : Int32) (wcol : Int32) (wrow : Int32) (wnum : Int32) (chs : Nat → Int32) (vf : Nat → Int32) (vh : Nat → Int32) (vu : Nat → Int32) (vd : Nat → Int32) (vt : Nat → Int32) (vg : Nat → Int32) (k7 : Int32) (k25 : Int32) (k26 : Int32) (k27 : Int32) (cn sn : Nat) (hcn : cn ≤ 500000) (hsn : sn ≤ 7000000) {post1391 : Int32 → Int32 → Int32 → (Nat → Int32) → Prop} {post1397 : Int32 → Int32 → Int32 → (Nat → Int32) → Prop} (hq : wp_sg_best1 vt vg k25 k26 k27 post1391 post1397) (H : Heap) (locs : List Loc) (hI : lwOK (dC, dI) A s (lwWg cI cS aR naS naC naF naK saS saC saF saK aHi aHA jS jC jF jK taF taK aT aCH lf lh lu ld lt lg isSaved npat ngoal ncol nmade nmac nks spat sgoal scol smade smac sks hkept hks hmade hmac hcol hpat hgoal tmade tmac tks wlen wpos wlet wcol wrow wnum chs vf vh vu vd vt vg) H locs) (ls : Array Slot) (hl : lv_has ls 32 [(0, .ref b), (1, .ref aR), (2, .ref lf), (3, .ref lh), (4, .ref lu), (5, .ref ld), (6, .ref lt), (7, .int k7), (25, .int k25), (26, .int k26), (27, .int k27), (24, .ref lg)]) (next1391 : ∀ (k25' : Int32) (k26' : Int32) (k27' : Int32) (m_vg : Nat → Int32) (lg : Nat) (H : Heap) (locs : List Loc) (ls : Array Slot), lwOK (dC, dI) A s (lwWg cI cS aR naS naC naF naK saS saC saF saK aHi aHA jS jC jF jK taF taK aT aCH lf lh lu ld lt lg isSaved npat ngoal ncol nmade nmac nks spat sgoal scol smade smac sks hkept hks hmade hmac hcol hpat hgoal tmade tmac tks wlen wpos wlet wcol wrow wnum chs vf vh vu vd vt m_vg) H locs → lv_has ls 32 [(0, .ref b), (1, .ref aR), (2, .ref lf), (3, .ref lh), (4, .ref lu), (5, .ref ld), (6, .ref lt), (7, .int k7), (25, .int k25'), (26, .int k26'), (27, .int k27'), (24, .ref lg)] → post1391 k25' k26' k27' m_vg → W p l e room_1 s m #[Value.ref b] below meth c H locs (cn + 1) (sn + 64) Q (F0 m 1391 ls [])) (next1397 : ∀ (k25' : Int32) (k26' : Int32) (k27' : Int32) (m_vg : Nat → Int32) (lg : Nat) (H : Heap) (locs : List Loc) (ls : Array Slot), lwOK (dC, dI) A s (lwWg cI cS aR naS naC naF naK saS saC saF saK aHi aHA jS jC jF jK taF taK aT aCH lf lh lu ld lt lg isSaved npat ngoal ncol nmade nmac nks spat sgoal scol smade smac sks hkept hks hmade hmac hcol hpat hgoal tmade tmac tks wlen wpos wlet wcol wrow wnum chs vf vh vu vd vt m_vg) H locs → lv_has ls 32 [(0, .ref b), (1, .ref aR), (2, .ref lf), (3, .ref lh), (4, .ref lu), (5, .ref ld), (6, .ref lt), (7, .int k7), (25, .int k25'), (26, .int k26'), (27, .int k27'), (24, .ref lg)] → post1397 k25' k26' k27' m_vg → W p l e room_1 s m #[Value.ref b] below meth c H locs cn sn Q (F0 m 1397 ls [])) : W p l e room_1 s m #[Value.ref b] below meth c H locs cn sn Q (F0 m 1238 ls []) := by
  unfold wp_sg_best1 at hq
  obtain ⟨hP, hD, hS⟩ := hI
  obtain ⟨hx, hb, hr, hml, hown, htt, hX, hbl, hlocks, hgv⟩ := C0
  have hts : ∀ w ∈ wsL_law, w.before #[Value.ref b] s = true := fun w h => htt w (wsL_law_in w h)
  have hown : s.vm.findClass RL = some m.cls := hown
  refine lv_iload hx hb dL_law_1238 (lv_at hl 10 rfl) ?_
  refine lv_bipush (v := 64) hx hb dL_law_1240 (by decide) ?_
  refine lv_icmp_ge (tgt := 1397) hx hb dL_law_1242 (by decide) (fun hc => ?_) (fun hc => ?_)
  · have hq := hq.1 hc
    exact next1397 k25 k26 k27 vg lg _ _ _ ⟨hP, hD, hS⟩ (lv_sub hl [0, 1, 2, 3, 4, 5, 6, 7, 8, 9, 10, 11] rfl) hq
  · have hq := hq.2 hc
    refine lv_iload hx hb dL_law_1245 (lv_at hl 10 rfl) ?_
    refine lv_bipush (v := 8) hx hb dL_law_1247 (by decide) ?_
    refine lv_idiv hx hb dL_law_1249 (by decide) ?_
    refine lv_topi (fun w28_1 ew28_1 => ?_)
    have hq := hq w28_1 ew28_1
    refine lv_istore (lv' := [(28, .int w28_1), (0, .ref b), (1, .ref aR), (2, .ref lf), (3, .ref lh), (4, .ref lu), (5, .ref ld), (6, .ref lt), (7, .int k7), (25, .int k25), (26, .int k26), (27, .int k27), (24, .ref lg)]) hx hb dL_law_1250 hl (by decide) rfl (fun ls hl => ?_)
    refine lv_iload hx hb dL_law_1252 (lv_at hl 11 rfl) ?_
    refine lv_bipush (v := 8) hx hb dL_law_1254 (by decide) ?_
    refine lv_irem hx hb dL_law_1256 (by decide) ?_
    refine lv_topi (fun w29_2 ew29_2 => ?_)
    have hq := hq w29_2 ew29_2
    refine lv_istore (lv' := [(29, .int w29_2), (28, .int w28_1), (0, .ref b), (1, .ref aR), (2, .ref lf), (3, .ref lh), (4, .ref lu), (5, .ref ld), (6, .ref lt), (7, .int k7), (25, .int k25), (26, .int k26), (27, .int k27), (24, .ref lg)]) hx hb dL_law_1257 hl (by decide) rfl (fun ls hl => ?_)
    refine lv_iload hx hb dL_law_1259 (lv_at hl 0 rfl) ?_
    refine lv_iload hx hb dL_law_1261 (lv_at hl 1 rfl) ?_
    refine lv_icmp_gt (tgt := 1391) hx hb dL_law_1263 (by decide) (fun hc => ?_) (fun hc => ?_)
    · have hq := hq.1 hc
      refine W.widen (k := (cn + 1)) (n := (sn + 64)) (by omega) (by omega) ?_
      exact next1391 k25 k26 k27 vg lg _ _ _ ⟨hP, hD, hS⟩ (lv_sub hl [2, 3, 4, 5, 6, 7, 8, 9, 10, 11, 12, 13] rfl) hq
    · have hq := hq.2 hc
      refine lv_iload hx hb dL_law_1266 (lv_at hl 0 rfl) ?_
      refine lv_iconst (v := 3) hx hb dL_law_1268 (by decide) ?_
      refine lv_icmp_gt (tgt := 1391) hx hb dL_law_1269 (by decide) (fun hc => ?_) (fun hc => ?_)
      · have hq := hq.1 hc
        refine W.widen (k := (cn + 1)) (n := (sn + 64)) (by omega) (by omega) ?_
        exact next1391 k25 k26 k27 vg lg _ _ _ ⟨hP, hD, hS⟩ (lv_sub hl [2, 3, 4, 5, 6, 7, 8, 9, 10, 11, 12, 13] rfl) hq
      · have hq := hq.2 hc
        refine lv_iload hx hb dL_law_1272 (lv_at hl 1 rfl) ?_
        refine lv_iload hx hb dL_law_1274 (lv_at hl 0 rfl) ?_
        refine lv_isub hx hb dL_law_1276 ?_
        refine lv_iconst (v := 3) hx hb dL_law_1277 (by decide) ?_
        refine lv_icmp_gt (tgt := 1391) hx hb dL_law_1278 (by decide) (fun hc => ?_) (fun hc => ?_)
        · have hq := hq.1 hc
          refine W.widen (k := (cn + 1)) (n := (sn + 64)) (by omega) (by omega) ?_
          exact next1391 k25 k26 k27 vg lg _ _ _ ⟨hP, hD, hS⟩ (lv_sub hl [2, 3, 4, 5, 6, 7, 8, 9, 10, 11, 12, 13] rfl) hq
        · have hq := hq.2 hc
          refine lv_iconst (v := 0) hx hb dL_law_1281 (by decide) ?_
          refine lv_istore (lv' := [(30, .int (0 : Int32)), (29, .int w29_2), (28, .int w28_1), (0, .ref b), (1, .ref aR), (2, .ref lf), (3, .ref lh), (4, .ref lu), (5, .ref ld), (6, .ref lt), (7, .int k7), (25, .int k25), (26, .int k26), (27, .int k27), (24, .ref lg)]) hx hb dL_law_1282 hl (by decide) rfl (fun ls hl => ?_)
          have hq := hq (fun (v30_3 : Int32) (vg__4 : Nat → Int32) => ∀ (H : Heap) (locs : List Loc) (ls : Array Slot), lwOK (dC, dI) A s (lwWg cI cS aR naS naC naF naK saS saC saF saK aHi aHA jS jC jF jK taF taK aT aCH lf lh lu ld lt lg isSaved npat ngoal ncol nmade nmac nks spat sgoal scol smade smac sks hkept hks hmade hmac hcol hpat hgoal tmade tmac tks wlen wpos wlet wcol wrow wnum chs vf vh vu vd vt vg__4) H locs → lv_has ls 32 [(0, .ref b), (1, .ref aR), (2, .ref lf), (3, .ref lh), (4, .ref lu), (5, .ref ld), (6, .ref lt), (7, .int k7), (24, .ref lg), (25, .int k25), (26, .int k26), (27, .int k27), (28, .int w28_1), (29, .int w29_2), (30, .int v30_3)] → W p l e room_1 s m #[Value.ref b] below meth c H locs cn sn Q (F0 m 1284 ls [])) (by
            intro v30_3 vg__4 hq H locs ls hI hl
            obtain ⟨hP, hD, hS⟩ := hI
            refine lv_iload hx hb dL_law_1284 (lv_at hl 14 rfl) ?_
            refine lv_bipush (v := 6) hx hb dL_law_1286 (by decide) ?_
            refine lv_icmp_ge (tgt := 1314) hx hb dL_law_1288 (by decide) (fun hc => ?_) (fun hc => ?_)
            · have hq := hq.1 hc
              refine lv_aload hx hb dL_law_1314 (lv_at hl 8 rfl) ?_
              refine lv_bipush (v := 6) hx hb dL_law_1316 (by decide) ?_
              refine lv_iload hx hb dL_law_1318 (lv_at hl 12 rfl) ?_
              have hin := hq.1
              have hq := hq.2
              refine va_iast hx hb hK hP hD hS 44 0 rfl rfl hin dL_law_1320 (fun H locs hP hD hS => ?_)
              have hP : va_P (dC, dI) vwCl (lwWg cI cS aR naS naC naF naK saS saC saF saK aHi aHA jS jC jF jK taF taK aT aCH lf lh lu ld lt lg isSaved npat ngoal ncol nmade nmac nks spat sgoal scol smade smac sks hkept hks hmade hmac hcol hpat hgoal tmade tmac tks wlen wpos wlet wcol wrow wnum chs vf vh vu vd vt (upd vg__4 ((6 : Int32)).toNatClampNeg w28_1)) H := hP
              have hD : va_D A (lwWg cI cS aR naS naC naF naK saS saC saF saK aHi aHA jS jC jF jK taF taK aT aCH lf lh lu ld lt lg isSaved npat ngoal ncol nmade nmac nks spat sgoal scol smade smac sks hkept hks hmade hmac hcol hpat hgoal tmade tmac tks wlen wpos wlet wcol wrow wnum chs vf vh vu vd vt (upd vg__4 ((6 : Int32)).toNatClampNeg w28_1)) := hD
              refine lv_aload hx hb dL_law_1321 (lv_at hl 8 rfl) ?_
              refine lv_aload hx hb dL_law_1323 (lv_at hl 6 rfl) ?_
              have hPc := hP.sub (ws' := [(lg, .inl (cI, 7, .inl (upd vg__4 ((6 : Int32)).toNatClampNeg w28_1))), (lt, .inl (cI, 8, .inl vt))]) [44, 43] rfl
              have hDc := hD.sub (ws' := [(lg, .inl (cI, 7, .inl (upd vg__4 ((6 : Int32)).toNatClampNeg w28_1))), (lt, .inl (cI, 8, .inl vt))]) [44, 43] (by decide) rfl
              have hFc := va_free (wc := [(lg, .inl (cI, 7, .inl (upd vg__4 ((6 : Int32)).toNatClampNeg w28_1))), (lt, .inl (cI, 8, .inl vt))]) hD hS hA [44, 43] rfl
              refine va_calli (va_runS (As := [.ref lg, .ref lt]) (rest := []) ⟨hx, hb, hml, hown, hts⟩ (c_L_punches l dC dI cI cC cS lg lt _ (upd vg__4 ((6 : Int32)).toNatClampNeg w28_1) vt hq) (va_cwS 2 hts gL_law_L_punches rfl rfl rfl (by decide +kernel) ⟨Nat.le_of_ble_eq_true rfl, Nat.le_of_ble_eq_true rfl⟩) (gn_preS hPc hK hN hDc) rfl rfl hl.1 rfl (lv_room (Nat.le_of_ble_eq_true rfl)) dL_law_1325 ⟨show _ ≤ (600000 : Nat) by omega, show _ ≤ (7302250 : Nat) by omega⟩) hS (fun q _ h => hFc q h) hFc (fun r_5 u t H1 locs ht hvm hq hB hz1 hk1 hS => ?_)
              obtain ⟨hP1, hK1, hD1⟩ := hB
              rw [ht] at hP1
              try dsimp only at hq
              have hP := gn_ro (wc := [(lg, .inl (cI, 7, .inl (upd vg__4 ((6 : Int32)).toNatClampNeg w28_1))), (lt, .inl (cI, 8, .inl vt))]) hP hD [44, 43] rfl hk1 hP1
              generalize H1 = H at hP hS ⊢
              refine W.widen (k := (cn + 1)) (n := (sn + 64)) (by omega) (by omega) ?_
              refine lv_istore (lv' := [(30, .int r_5), (0, .ref b), (1, .ref aR), (2, .ref lf), (3, .ref lh), (4, .ref lu), (5, .ref ld), (6, .ref lt), (7, .int k7), (24, .ref lg), (25, .int k25), (26, .int k26), (27, .int k27), (28, .int w28_1), (29, .int w29_2)]) hx hb dL_law_1328 hl (by decide) rfl (fun ls hl => ?_)
              refine lv_iload hx hb dL_law_1330 (lv_at hl 0 rfl) ?_
              have hq := hq (fun (t_6 : Int32) => ∀ (H : Heap) (locs : List Loc) (ls : Array Slot), lwOK (dC, dI) A s (lwWg cI cS aR naS naC naF naK saS saC saF saK aHi aHA jS jC jF jK taF taK aT aCH lf lh lu ld lt lg isSaved npat ngoal ncol nmade nmac nks spat sgoal scol smade smac sks hkept hks hmade hmac hcol hpat hgoal tmade tmac tks wlen wpos wlet wcol wrow wnum chs vf vh vu vd vt (upd vg__4 ((6 : Int32)).toNatClampNeg w28_1)) H locs → lv_has ls 32 [(0, .ref b), (1, .ref aR), (2, .ref lf), (3, .ref lh), (4, .ref lu), (5, .ref ld), (6, .ref lt), (7, .int k7), (24, .ref lg), (25, .int k25), (26, .int k26), (27, .int k27), (28, .int w28_1), (29, .int w29_2), (30, .int r_5)] → W p l e room_1 s m #[Value.ref b] below meth c H locs (cn + 1) (sn + 64) Q (F0 m 1352 ls [.int t_6])) (by
                intro t_6 hq H locs ls hI hl
                obtain ⟨hP, hD, hS⟩ := hI
                refine lv_istore (lv' := [(31, .int t_6), (0, .ref b), (1, .ref aR), (2, .ref lf), (3, .ref lh), (4, .ref lu), (5, .ref ld), (6, .ref lt), (7, .int k7), (24, .ref lg), (25, .int k25), (26, .int k26), (27, .int k27), (28, .int w28_1), (29, .int w29_2), (30, .int r_5)]) hx hb dL_law_1352 hl (by decide) rfl (fun ls hl => ?_)
                refine lv_iload hx hb dL_law_1354 (lv_at hl 0 rfl) ?_
                have hq := hq (fun (t_7 : Int32) => ∀ (H : Heap) (locs : List Loc) (ls : Array Slot), lwOK (dC, dI) A s (lwWg cI cS aR naS naC naF naK saS saC saF saK aHi aHA jS jC jF jK taF taK aT aCH lf lh lu ld lt lg isSaved npat ngoal ncol nmade nmac nks spat sgoal scol smade smac sks hkept hks hmade hmac hcol hpat hgoal tmade tmac tks wlen wpos wlet wcol wrow wnum chs vf vh vu vd vt (upd vg__4 ((6 : Int32)).toNatClampNeg w28_1)) H locs → lv_has ls 32 [(0, .ref b), (1, .ref aR), (2, .ref lf), (3, .ref lh), (4, .ref lu), (5, .ref ld), (6, .ref lt), (7, .int k7), (24, .ref lg), (26, .int k26), (27, .int k27), (30, .int r_5), (31, .int t_6)] → W p l e room_1 s m #[Value.ref b] below meth c H locs (cn + 1) (sn + 64) Q (F0 m 1375 ls [.int t_7])) (by
                  intro t_7 hq H locs ls hI hl
                  obtain ⟨hP, hD, hS⟩ := hI
                  refine lv_istore (lv' := [(25, .int t_7), (0, .ref b), (1, .ref aR), (2, .ref lf), (3, .ref lh), (4, .ref lu), (5, .ref ld), (6, .ref lt), (7, .int k7), (24, .ref lg), (26, .int k26), (27, .int k27), (30, .int r_5), (31, .int t_6)]) hx hb dL_law_1375 hl (by decide) rfl (fun ls hl => ?_)
                  refine lv_iload hx hb dL_law_1377 (lv_at hl 13 rfl) ?_
                  have hq := hq (fun (t_8 : Int32) => ∀ (H : Heap) (locs : List Loc) (ls : Array Slot), lwOK (dC, dI) A s (lwWg cI cS aR naS naC naF naK saS saC saF saK aHi aHA jS jC jF jK taF taK aT aCH lf lh lu ld lt lg isSaved npat ngoal ncol nmade nmac nks spat sgoal scol smade smac sks hkept hks hmade hmac hcol hpat hgoal tmade tmac tks wlen wpos wlet wcol wrow wnum chs vf vh vu vd vt (upd vg__4 ((6 : Int32)).toNatClampNeg w28_1)) H locs → lv_has ls 32 [(0, .ref b), (1, .ref aR), (2, .ref lf), (3, .ref lh), (4, .ref lu), (5, .ref ld), (6, .ref lt), (7, .int k7), (24, .ref lg), (25, .int t_7), (27, .int k27)] → W p l e room_1 s m #[Value.ref b] below meth c H locs (cn + 1) (sn + 64) Q (F0 m 1389 ls [.int t_8])) (by
                    intro t_8 hq H locs ls hI hl
                    obtain ⟨hP, hD, hS⟩ := hI
                    refine lv_istore (lv' := [(26, .int t_8), (0, .ref b), (1, .ref aR), (2, .ref lf), (3, .ref lh), (4, .ref lu), (5, .ref ld), (6, .ref lt), (7, .int k7), (24, .ref lg), (25, .int t_7), (27, .int k27)]) hx hb dL_law_1389 hl (by decide) rfl (fun ls hl => ?_)
                    exact next1391 t_7 t_8 k27 (upd vg__4 ((6 : Int32)).toNatClampNeg w28_1) lg _ _ _ ⟨hP, hD, hS⟩ (lv_sub hl [1, 2, 3, 4, 5, 6, 7, 8, 10, 0, 11, 9] rfl) hq)
                  refine lv_if_eq (tgt := 1387) hx hb dL_law_1379 (by decide) (fun hc => ?_) (fun hc => ?_)
                  · have hq := hq.1 hc
                    refine lv_iload hx hb dL_law_1387 (lv_at hl 10 rfl) ?_
                    exact hq _ _ _ ⟨hP, hD, hS⟩ (lv_sub hl [1, 2, 3, 4, 5, 6, 7, 8, 9, 0, 11] rfl)
                  · have hq := hq.2 hc
                    refine lv_iload hx hb dL_law_1382 (lv_at hl 12 rfl) ?_
                    refine lv_goto (tgt := 1389) hx hb dL_law_1384 (by decide) ?_
                    exact hq _ _ _ ⟨hP, hD, hS⟩ (lv_sub hl [1, 2, 3, 4, 5, 6, 7, 8, 9, 0, 11] rfl))
                refine lv_if_eq (tgt := 1373) hx hb dL_law_1356 (by decide) (fun hc => ?_) (fun hc => ?_)
                · have hq := hq.1 hc
                  refine lv_iload hx hb dL_law_1373 (lv_at hl 10 rfl) ?_
                  exact hq _ _ _ ⟨hP, hD, hS⟩ (lv_sub hl [1, 2, 3, 4, 5, 6, 7, 8, 9, 11, 12, 15, 0] rfl)
                · have hq := hq.2 hc
                  refine lv_bipush (v := 10) hx hb dL_law_1359 (by decide) ?_
                  refine lv_iload hx hb dL_law_1361 (lv_at hl 14 rfl) ?_
                  refine lv_imul hx hb dL_law_1363 ?_
                  refine lv_iload hx hb dL_law_1364 (lv_at hl 13 rfl) ?_
                  refine lv_iadd hx hb dL_law_1366 ?_
                  refine lv_iload hx hb dL_law_1367 (lv_at hl 14 rfl) ?_
                  refine lv_isub hx hb dL_law_1369 ?_
                  refine lv_goto (tgt := 1375) hx hb dL_law_1370 (by decide) ?_
                  exact hq _ _ _ ⟨hP, hD, hS⟩ (lv_sub hl [1, 2, 3, 4, 5, 6, 7, 8, 9, 11, 12, 15, 0] rfl))
              have hq := hq (∀ (H : Heap) (locs : List Loc) (ls : Array Slot), lwOK (dC, dI) A s (lwWg cI cS aR naS naC naF naK saS saC saF saK aHi aHA jS jC jF jK taF taK aT aCH lf lh lu ld lt lg isSaved npat ngoal ncol nmade nmac nks spat sgoal scol smade smac sks hkept hks hmade hmac hcol hpat hgoal tmade tmac tks wlen wpos wlet wcol wrow wnum chs vf vh vu vd vt (upd vg__4 ((6 : Int32)).toNatClampNeg w28_1)) H locs → lv_has ls 32 [(0, .ref b), (1, .ref aR), (2, .ref lf), (3, .ref lh), (4, .ref lu), (5, .ref ld), (6, .ref lt), (7, .int k7), (24, .ref lg), (25, .int k25), (26, .int k26), (27, .int k27), (28, .int w28_1), (29, .int w29_2), (30, .int r_5)] → W p l e room_1 s m #[Value.ref b] below meth c H locs (cn + 1) (sn + 64) Q (F0 m 1351 ls [])) (by
                intro  hq H locs ls hI hl
                obtain ⟨hP, hD, hS⟩ := hI
                refine lv_iconst (v := 0) hx hb dL_law_1351 (by decide) ?_
                exact hq _ _ _ ⟨hP, hD, hS⟩ (lv_sub hl [0, 1, 2, 3, 4, 5, 6, 7, 8, 9, 10, 11, 12, 13, 14] rfl))
              refine lv_if_lt (tgt := 1351) hx hb dL_law_1332 (by decide) (fun hc => ?_) (fun hc => ?_)
              · have hq := hq.1 hc
                exact hq _ _ _ ⟨hP, hD, hS⟩ (lv_sub hl [1, 2, 3, 4, 5, 6, 7, 8, 9, 10, 11, 12, 13, 14, 0] rfl)
              · have hq := hq.2 hc
                refine lv_iload hx hb dL_law_1335 (lv_at hl 10 rfl) ?_
                have hq := hq (∀ (H : Heap) (locs : List Loc) (ls : Array Slot), lwOK (dC, dI) A s (lwWg cI cS aR naS naC naF naK saS saC saF saK aHi aHA jS jC jF jK taF taK aT aCH lf lh lu ld lt lg isSaved npat ngoal ncol nmade nmac nks spat sgoal scol smade smac sks hkept hks hmade hmac hcol hpat hgoal tmade tmac tks wlen wpos wlet wcol wrow wnum chs vf vh vu vd vt (upd vg__4 ((6 : Int32)).toNatClampNeg w28_1)) H locs → lv_has ls 32 [(0, .ref b), (1, .ref aR), (2, .ref lf), (3, .ref lh), (4, .ref lu), (5, .ref ld), (6, .ref lt), (7, .int k7), (24, .ref lg), (25, .int k25), (26, .int k26), (27, .int k27), (28, .int w28_1), (29, .int w29_2), (30, .int r_5)] → W p l e room_1 s m #[Value.ref b] below meth c H locs (cn + 1) (sn + 64) Q (F0 m 1347 ls [])) (by
                  intro  hq H locs ls hI hl
                  obtain ⟨hP, hD, hS⟩ := hI
                  refine lv_iconst (v := 1) hx hb dL_law_1347 (by decide) ?_
                  refine lv_goto (tgt := 1352) hx hb dL_law_1348 (by decide) ?_
                  exact hq _ _ _ ⟨hP, hD, hS⟩ (lv_sub hl [0, 1, 2, 3, 4, 5, 6, 7, 8, 9, 10, 11, 12, 13, 14] rfl))
                refine lv_if_lt (tgt := 1347) hx hb dL_law_1337 (by decide) (fun hc => ?_) (fun hc => ?_)
                · have hq := hq.1 hc
                  exact hq _ _ _ ⟨hP, hD, hS⟩ (lv_sub hl [1, 2, 3, 4, 5, 6, 7, 8, 9, 10, 11, 12, 13, 14, 0] rfl)
                · have hq := hq.2 hc
                  refine lv_iload hx hb dL_law_1340 (lv_at hl 0 rfl) ?_
                  refine lv_iload hx hb dL_law_1342 (lv_at hl 11 rfl) ?_
                  refine lv_icmp_ge (tgt := 1351) hx hb dL_law_1344 (by decide) (fun hc => ?_) (fun hc => ?_)
                  · have hq := hq.1 hc
                    exact hq _ _ _ ⟨hP, hD, hS⟩ (lv_sub hl [1, 2, 3, 4, 5, 6, 7, 8, 9, 10, 11, 12, 13, 14, 0] rfl)
                  · have hq := hq.2 hc
                    exact hq _ _ _ ⟨hP, hD, hS⟩ (lv_sub hl [1, 2, 3, 4, 5, 6, 7, 8, 9, 10, 11, 12, 13, 14, 0] rfl)
            · have hq := hq.2 hc
              refine lv_aload hx hb dL_law_1291 (lv_at hl 8 rfl) ?_
              refine lv_iload hx hb dL_law_1293 (lv_at hl 14 rfl) ?_
              refine lv_iload hx hb dL_law_1295 (lv_at hl 14 rfl) ?_
              refine lv_iload hx hb dL_law_1297 (lv_at hl 13 rfl) ?_
              have hq := hq (fun (t_9 : Int32) => ∀ (H : Heap) (locs : List Loc) (ls : Array Slot), lwOK (dC, dI) A s (lwWg cI cS aR naS naC naF naK saS saC saF saK aHi aHA jS jC jF jK taF taK aT aCH lf lh lu ld lt lg isSaved npat ngoal ncol nmade nmac nks spat sgoal scol smade smac sks hkept hks hmade hmac hcol hpat hgoal tmade tmac tks wlen wpos wlet wcol wrow wnum chs vf vh vu vd vt vg__4) H locs → lv_has ls 32 [(0, .ref b), (1, .ref aR), (2, .ref lf), (3, .ref lh), (4, .ref lu), (5, .ref ld), (6, .ref lt), (7, .int k7), (24, .ref lg), (25, .int k25), (26, .int k26), (27, .int k27), (28, .int w28_1), (29, .int w29_2), (30, .int v30_3)] → W p l e room_1 s m #[Value.ref b] below meth c H locs cn sn Q (F0 m 1307 ls [.int t_9, .int v30_3, .ref lg])) (by
                intro t_9 hq H locs ls hI hl
                obtain ⟨hP, hD, hS⟩ := hI
                have hin := hq.1
                have hq := hq.2
                refine va_iast hx hb hK hP hD hS 44 0 rfl rfl hin dL_law_1307 (fun H locs hP hD hS => ?_)
                have hP : va_P (dC, dI) vwCl (lwWg cI cS aR naS naC naF naK saS saC saF saK aHi aHA jS jC jF jK taF taK aT aCH lf lh lu ld lt lg isSaved npat ngoal ncol nmade nmac nks spat sgoal scol smade smac sks hkept hks hmade hmac hcol hpat hgoal tmade tmac tks wlen wpos wlet wcol wrow wnum chs vf vh vu vd vt (upd vg__4 (v30_3).toNatClampNeg t_9)) H := hP
                have hD : va_D A (lwWg cI cS aR naS naC naF naK saS saC saF saK aHi aHA jS jC jF jK taF taK aT aCH lf lh lu ld lt lg isSaved npat ngoal ncol nmade nmac nks spat sgoal scol smade smac sks hkept hks hmade hmac hcol hpat hgoal tmade tmac tks wlen wpos wlet wcol wrow wnum chs vf vh vu vd vt (upd vg__4 (v30_3).toNatClampNeg t_9)) := hD
                refine lv_iinc (v := (v30_3 + (1 : Int32))) (lv' := [(30, .int (v30_3 + (1 : Int32))), (0, .ref b), (1, .ref aR), (2, .ref lf), (3, .ref lh), (4, .ref lu), (5, .ref ld), (6, .ref lt), (7, .int k7), (24, .ref lg), (25, .int k25), (26, .int k26), (27, .int k27), (28, .int w28_1), (29, .int w29_2)]) hx hb dL_law_1308 hl (k := 14) rfl rfl (by decide) rfl (fun ls hl => ?_)
                refine lv_goto (tgt := 1284) hx hb dL_law_1311 (by decide) ?_
                exact hq _ _ _ ⟨hP, hD, hS⟩ (lv_sub hl [1, 2, 3, 4, 5, 6, 7, 8, 9, 10, 11, 12, 13, 14, 0] rfl))
              refine lv_icmp_ge (tgt := 1306) hx hb dL_law_1299 (by decide) (fun hc => ?_) (fun hc => ?_)
              · have hq := hq.1 hc
                refine lv_iconst (v := 3) hx hb dL_law_1306 (by decide) ?_
                exact hq _ _ _ ⟨hP, hD, hS⟩ (lv_sub hl [0, 1, 2, 3, 4, 5, 6, 7, 8, 9, 10, 11, 12, 13, 14] rfl)
              · have hq := hq.2 hc
                refine lv_iconst (v := 1) hx hb dL_law_1302 (by decide) ?_
                refine lv_goto (tgt := 1307) hx hb dL_law_1303 (by decide) ?_
                exact hq _ _ _ ⟨hP, hD, hS⟩ (lv_sub hl [0, 1, 2, 3, 4, 5, 6, 7, 8, 9, 10, 11, 12, 13, 14] rfl))
          exact hq _ _ _ ⟨hP, hD, hS⟩ (lv_sub hl [3, 4, 5, 6, 7, 8, 9, 10, 14, 11, 12, 13, 2, 1, 0] rfl)
