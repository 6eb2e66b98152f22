def wp_sg_same (vf : Nat → Int32) (vh : Nat → Int32) (vt : Nat → Int32) (k17 : Int32) (k18 : Int32) (k20 : Int32) (post1153 : Int32 → Int32 → Int32 → Int32 → Int32 → Prop) : Prop :=
  wp_L_isSame vh (0 : Int32) (fun r_1 => ∀ (P1100 : Int32 → Prop), (∀ (t_2 : Int32), (wp_L_isSame vh (1 : Int32) (fun r_3 => ∀ (P1113 : Int32 → Prop), (∀ (t_4 : Int32), (wp_L_isSame vh (2 : Int32) (fun r_5 => ∀ (P1127 : Int32 → Prop), (∀ (t_6 : Int32), (wp_L_isSame vh (3 : Int32) (fun r_7 => ∀ (P1142 : Int32 → Prop), (∀ (t_8 : Int32), (∀ w22_9 : Int32, w22_9 = (((t_2 + t_4) + t_6) + t_8) → wp_L_punches vf vt (fun r_10 => post1153 k17 k18 k20 w22_9 r_10)) → P1142 t_8) → ((r_7 = 0) → P1142 (0 : Int32)) ∧ ((¬ r_7 = 0) → P1142 (8 : Int32)))) → P1127 t_6) → ((r_5 = 0) → P1127 (0 : Int32)) ∧ ((¬ r_5 = 0) → P1127 (4 : Int32)))) → P1113 t_4) → ((r_3 = 0) → P1113 (0 : Int32)) ∧ ((¬ r_3 = 0) → P1113 (2 : Int32)))) → P1100 t_2) → ((r_1 = 0) → P1100 (0 : Int32)) ∧ ((¬ r_1 = 0) → P1100 (1 : Int32)))

set_option maxHeartbeats 8000000 in
set_option maxRecDepth 100000 in
theorem sg_same {p : Program} {l : Launch} {e : Env} {s : State} {m : MethodId} {below : List Frame} {meth : Method} {c : Code} {A : Nat → Prop} {dC : Nat → ClassId} {dI : Nat → Nat → Nat} {cI cC cS : ClassId} {b L : Nat} {xs : Nat → Int32} {Q : State → Prop} (hL : L ≤ 260) (C0 : lw_At p s m meth c b L xs) (hA : ∀ q : Nat, s.heap.size ≤ q → A q) (hbA : ¬ A b) (hN : gn_nw s) (hK : va_K (dC, dI) vwCl (gn_tys cI cC cS) s) (aR : Nat) (naS : Nat) (naC : Nat) (naF : Nat) (naK : Nat) (saS : Nat) (saC : Nat) (saF : Nat) (saK : Nat) (aHi : Nat) (aHA : Nat) (jS : Nat → Nat) (jC : Nat → Nat) (jF : Nat → Nat) (jK : Nat → Nat) (taF : Nat) (taK : Nat) (aT : Nat) (aCH : Nat) (lf : Nat) (lh : Nat) (lu : Nat) (ld : Nat) (lt : Nat) (lp : Nat) (isSaved : Int32) (npat : Int64) (ngoal : Int64) (ncol : Nat → Int32) (nmade : Int32) (nmac : Int32) (nks : Nat → Int32) (spat : Int64) (sgoal : Int64) (scol : Nat → Int32) (smade : Int32) (smac : Int32) (sks : Nat → Int32) (hkept : Int32) (hks : Nat → Nat → Int32) (hmade : Nat → Int32) (hmac : Nat → Int32) (hcol : Nat → Nat → Int32) (hpat : Nat → Int64) (hgoal : Nat → Int64) (tmade : Int32) (tmac : Int32) (tks : Nat → Int32) (wlen : Int32) (wpos : Int32) (wlet : Int32) (wcol : Int32) (wrow : Int32) (wnum : Int32) (chs : Nat → Int32) (vf : Nat → Int32) (vh : Nat → Int32) (vu : Nat → Int32) (vd : Nat → Int32) (vt : Nat → Int32) (vp : Nat → Int32) (k7 : Int32) (k17 : Int32) (k18 : Int32) (k20 : Int32) (cn sn : Nat) (hcn : cn ≤ 500000) (hsn : sn ≤ 7000000) {post1153 : Int32 → Int32 → Int32 → Int32 → Int32 → Prop} (hq : wp_sg_same vf vh vt k17 k18 k20 post1153) (H : Heap) (locs : List Loc) (hI : lwOK (dC, dI) A s (lwWp cI cS aR naS naC naF naK saS saC saF saK aHi aHA jS jC jF jK taF taK aT aCH lf lh lu ld lt lp isSaved npat ngoal ncol nmade nmac nks spat sgoal scol smade smac sks hkept hks hmade hmac hcol hpat hgoal tmade tmac tks wlen wpos wlet wcol wrow wnum chs vf vh vu vd vt vp) H locs) (ls : Array Slot) (hl : lv_has ls 32 [(0, .ref b), (1, .ref aR), (2, .ref lf), (3, .ref lh), (4, .ref lu), (5, .ref ld), (6, .ref lt), (7, .int k7), (17, .int k17), (18, .int k18), (20, .int k20), (21, .ref lp)]) (next1153 : ∀ (k17' : Int32) (k18' : Int32) (k20' : Int32) (k22' : Int32) (k23' : Int32) (lp : Nat) (H : Heap) (locs : List Loc) (ls : Array Slot), lwOK (dC, dI) A s (lwWp cI cS aR naS naC naF naK saS saC saF saK aHi aHA jS jC jF jK taF taK aT aCH lf lh lu ld lt lp isSaved npat ngoal ncol nmade nmac nks spat sgoal scol smade smac sks hkept hks hmade hmac hcol hpat hgoal tmade tmac tks wlen wpos wlet wcol wrow wnum chs vf vh vu vd vt vp) H locs → lv_has ls 32 [(0, .ref b), (1, .ref aR), (2, .ref lf), (3, .ref lh), (4, .ref lu), (5, .ref ld), (6, .ref lt), (7, .int k7), (17, .int k17'), (18, .int k18'), (20, .int k20'), (22, .int k22'), (23, .int k23'), (21, .ref lp)] → post1153 k17' k18' k20' k22' k23' → W p l e room_1 s m #[Value.ref b] below meth c H locs (cn + 1) (sn + 64) Q (F0 m 1153 ls [])) : W p l e room_1 s m #[Value.ref b] below meth c H locs cn sn Q (F0 m 1087 ls []) := by
  unfold wp_sg_same at hq
  obtain ⟨hP, hD, hS⟩ := hI
  obtain ⟨hx, hb, hr, hml, hown, htt, hX, hbl, hlocks, hgv⟩ := C0
  have hts : ∀ w ∈ wsL_law, w.before #[Value.ref b] s = true := fun w h => htt w (wsL_law_in w h)
  have hown : s.vm.findClass RL = some m.cls := hown
  refine lv_aload_n hx hb dL_law_1087 rfl (lv_at hl 3 rfl) ?_
  refine lv_iconst (v := 0) hx hb dL_law_1088 (by decide) ?_
  have hPc := hP.sub (ws' := [(lh, .inl (cI, 64, .inl vh))]) [40] rfl
  have hDc := hD.sub (ws' := [(lh, .inl (cI, 64, .inl vh))]) [40] (by decide) rfl
  have hFc := va_free (wc := [(lh, .inl (cI, 64, .inl vh))]) hD hS hA [40] rfl
  refine va_calli (va_runS (As := [.ref lh, .int (0 : Int32)]) (rest := []) ⟨hx, hb, hml, hown, hts⟩ (c_L_isSame l dC dI cI cC cS lh _ vh (0 : Int32) hq) (va_cwS 2 hts gL_law_L_isSame rfl rfl rfl (by decide +kernel) ⟨Nat.le_of_ble_eq_true rfl, Nat.le_of_ble_eq_true rfl⟩) (gn_preS hPc hK hN hDc) rfl rfl hl.1 rfl (lv_room (Nat.le_of_ble_eq_true rfl)) dL_law_1089 ⟨show _ ≤ (600000 : Nat) by omega, show _ ≤ (7302250 : Nat) by omega⟩) hS (fun q _ h => hFc q h) hFc (fun r_1 u t H1 locs ht hvm hq hB hz1 hk1 hS => ?_)
  obtain ⟨hP1, hK1, hD1⟩ := hB
  rw [ht] at hP1
  try dsimp only at hq
  have hP := gn_ro (wc := [(lh, .inl (cI, 64, .inl vh))]) hP hD [40] rfl hk1 hP1
  generalize H1 = H at hP hS ⊢
  have hq := hq (fun (t_2 : Int32) => ∀ (H : Heap) (locs : List Loc) (ls : Array Slot), lwOK (dC, dI) A s (lwWp cI cS aR naS naC naF naK saS saC saF saK aHi aHA jS jC jF jK taF taK aT aCH lf lh lu ld lt lp isSaved npat ngoal ncol nmade nmac nks spat sgoal scol smade smac sks hkept hks hmade hmac hcol hpat hgoal tmade tmac tks wlen wpos wlet wcol wrow wnum chs vf vh vu vd vt vp) H locs → lv_has ls 32 [(0, .ref b), (1, .ref aR), (2, .ref lf), (3, .ref lh), (4, .ref lu), (5, .ref ld), (6, .ref lt), (7, .int k7), (17, .int k17), (18, .int k18), (20, .int k20), (21, .ref lp)] → W p l e room_1 s m #[Value.ref b] below meth c H locs cn sn Q (F0 m 1100 ls [.int t_2])) (by
    intro t_2 hq H locs ls hI hl
    obtain ⟨hP, hD, hS⟩ := hI
    refine lv_aload_n hx hb dL_law_1100 rfl (lv_at hl 3 rfl) ?_
    refine lv_iconst (v := 1) hx hb dL_law_1101 (by decide) ?_
    have hPc := hP.sub (ws' := [(lh, .inl (cI, 64, .inl vh))]) [40] rfl
    have hDc := hD.sub (ws' := [(lh, .inl (cI, 64, .inl vh))]) [40] (by decide) rfl
    have hFc := va_free (wc := [(lh, .inl (cI, 64, .inl vh))]) hD hS hA [40] rfl
    refine va_calli (va_runS (As := [.ref lh, .int (1 : Int32)]) (rest := [.int t_2]) ⟨hx, hb, hml, hown, hts⟩ (c_L_isSame l dC dI cI cC cS lh _ vh (1 : Int32) hq) (va_cwS 2 hts gL_law_L_isSame rfl rfl rfl (by decide +kernel) ⟨Nat.le_of_ble_eq_true rfl, Nat.le_of_ble_eq_true rfl⟩) (gn_preS hPc hK hN hDc) rfl rfl hl.1 rfl (lv_room (Nat.le_of_ble_eq_true rfl)) dL_law_1102 ⟨show _ ≤ (600000 : Nat) by omega, show _ ≤ (7302250 : Nat) by omega⟩) hS (fun q _ h => hFc q h) hFc (fun r_3 u t H1 locs ht hvm hq hB hz1 hk1 hS => ?_)
    obtain ⟨hP1, hK1, hD1⟩ := hB
    rw [ht] at hP1
    try dsimp only at hq
    have hP := gn_ro (wc := [(lh, .inl (cI, 64, .inl vh))]) hP hD [40] rfl hk1 hP1
    generalize H1 = H at hP hS ⊢
    have hq := hq (fun (t_4 : Int32) => ∀ (H : Heap) (locs : List Loc) (ls : Array Slot), lwOK (dC, dI) A s (lwWp cI cS aR naS naC naF naK saS saC saF saK aHi aHA jS jC jF jK taF taK aT aCH lf lh lu ld lt lp isSaved npat ngoal ncol nmade nmac nks spat sgoal scol smade smac sks hkept hks hmade hmac hcol hpat hgoal tmade tmac tks wlen wpos wlet wcol wrow wnum chs vf vh vu vd vt vp) H locs → lv_has ls 32 [(0, .ref b), (1, .ref aR), (2, .ref lf), (3, .ref lh), (4, .ref lu), (5, .ref ld), (6, .ref lt), (7, .int k7), (17, .int k17), (18, .int k18), (20, .int k20), (21, .ref lp)] → W p l e room_1 s m #[Value.ref b] below meth c H locs cn sn Q (F0 m 1113 ls [.int t_4, .int t_2])) (by
      intro t_4 hq H locs ls hI hl
      obtain ⟨hP, hD, hS⟩ := hI
      refine lv_iadd hx hb dL_law_1113 ?_
      refine lv_aload_n hx hb dL_law_1114 rfl (lv_at hl 3 rfl) ?_
      refine lv_iconst (v := 2) hx hb dL_law_1115 (by decide) ?_
      have hPc := hP.sub (ws' := [(lh, .inl (cI, 64, .inl vh))]) [40] rfl
      have hDc := hD.sub (ws' := [(lh, .inl (cI, 64, .inl vh))]) [40] (by decide) rfl
      have hFc := va_free (wc := [(lh, .inl (cI, 64, .inl vh))]) hD hS hA [40] rfl
      refine va_calli (va_runS (As := [.ref lh, .int (2 : Int32)]) (rest := [.int (t_2 + t_4)]) ⟨hx, hb, hml, hown, hts⟩ (c_L_isSame l dC dI cI cC cS lh _ vh (2 : Int32) hq) (va_cwS 2 hts gL_law_L_isSame rfl rfl rfl (by decide +kernel) ⟨Nat.le_of_ble_eq_true rfl, Nat.le_of_ble_eq_true rfl⟩) (gn_preS hPc hK hN hDc) rfl rfl hl.1 rfl (lv_room (Nat.le_of_ble_eq_true rfl)) dL_law_1116 ⟨show _ ≤ (600000 : Nat) by omega, show _ ≤ (7302250 : Nat) by omega⟩) hS (fun q _ h => hFc q h) hFc (fun r_5 u t H1 locs ht hvm hq hB hz1 hk1 hS => ?_)
      obtain ⟨hP1, hK1, hD1⟩ := hB
      rw [ht] at hP1
      try dsimp only at hq
      have hP := gn_ro (wc := [(lh, .inl (cI, 64, .inl vh))]) hP hD [40] rfl hk1 hP1
      generalize H1 = H at hP hS ⊢
      have hq := hq (fun (t_6 : Int32) => ∀ (H : Heap) (locs : List Loc) (ls : Array Slot), lwOK (dC, dI) A s (lwWp cI cS aR naS naC naF naK saS saC saF saK aHi aHA jS jC jF jK taF taK aT aCH lf lh lu ld lt lp isSaved npat ngoal ncol nmade nmac nks spat sgoal scol smade smac sks hkept hks hmade hmac hcol hpat hgoal tmade tmac tks wlen wpos wlet wcol wrow wnum chs vf vh vu vd vt vp) H locs → lv_has ls 32 [(0, .ref b), (1, .ref aR), (2, .ref lf), (3, .ref lh), (4, .ref lu), (5, .ref ld), (6, .ref lt), (7, .int k7), (17, .int k17), (18, .int k18), (20, .int k20), (21, .ref lp)] → W p l e room_1 s m #[Value.ref b] below meth c H locs cn sn Q (F0 m 1127 ls [.int t_6, .int (t_2 + t_4)])) (by
        intro t_6 hq H locs ls hI hl
        obtain ⟨hP, hD, hS⟩ := hI
        refine lv_iadd hx hb dL_law_1127 ?_
        refine lv_aload_n hx hb dL_law_1128 rfl (lv_at hl 3 rfl) ?_
        refine lv_iconst (v := 3) hx hb dL_law_1129 (by decide) ?_
        have hPc := hP.sub (ws' := [(lh, .inl (cI, 64, .inl vh))]) [40] rfl
        have hDc := hD.sub (ws' := [(lh, .inl (cI, 64, .inl vh))]) [40] (by decide) rfl
        have hFc := va_free (wc := [(lh, .inl (cI, 64, .inl vh))]) hD hS hA [40] rfl
        refine va_calli (va_runS (As := [.ref lh, .int (3 : Int32)]) (rest := [.int ((t_2 + t_4) + t_6)]) ⟨hx, hb, hml, hown, hts⟩ (c_L_isSame l dC dI cI cC cS lh _ vh (3 : Int32) hq) (va_cwS 2 hts gL_law_L_isSame rfl rfl rfl (by decide +kernel) ⟨Nat.le_of_ble_eq_true rfl, Nat.le_of_ble_eq_true rfl⟩) (gn_preS hPc hK hN hDc) rfl rfl hl.1 rfl (lv_room (Nat.le_of_ble_eq_true rfl)) dL_law_1130 ⟨show _ ≤ (600000 : Nat) by omega, show _ ≤ (7302250 : Nat) by omega⟩) hS (fun q _ h => hFc q h) hFc (fun r_7 u t H1 locs ht hvm hq hB hz1 hk1 hS => ?_)
        obtain ⟨hP1, hK1, hD1⟩ := hB
        rw [ht] at hP1
        try dsimp only at hq
        have hP := gn_ro (wc := [(lh, .inl (cI, 64, .inl vh))]) hP hD [40] rfl hk1 hP1
        generalize H1 = H at hP hS ⊢
        have hq := hq (fun (t_8 : Int32) => ∀ (H : Heap) (locs : List Loc) (ls : Array Slot), lwOK (dC, dI) A s (lwWp cI cS aR naS naC naF naK saS saC saF saK aHi aHA jS jC jF jK taF taK aT aCH lf lh lu ld lt lp isSaved npat ngoal ncol nmade nmac nks spat sgoal scol smade smac sks hkept hks hmade hmac hcol hpat hgoal tmade tmac tks wlen wpos wlet wcol wrow wnum chs vf vh vu vd vt vp) H locs → lv_has ls 32 [(0, .ref b), (1, .ref aR), (2, .ref lf), (3, .ref lh), (4, .ref lu), (5, .ref ld), (6, .ref lt), (7, .int k7), (17, .int k17), (18, .int k18), (20, .int k20), (21, .ref lp)] → W p l e room_1 s m #[Value.ref b] below meth c H locs cn sn Q (F0 m 1142 ls [.int t_8, .int ((t_2 + t_4) + t_6)])) (by
          intro t_8 hq H locs ls hI hl
          obtain ⟨hP, hD, hS⟩ := hI
          refine lv_iadd hx hb dL_law_1142 ?_
          refine lv_topi (fun w22_9 ew22_9 => ?_)
          have hq := hq w22_9 ew22_9
          refine lv_istore (lv' := [(22, .int w22_9), (0, .ref b), (1, .ref aR), (2, .ref lf), (3, .ref lh), (4, .ref lu), (5, .ref ld), (6, .ref lt), (7, .int k7), (17, .int k17), (18, .int k18), (20, .int k20), (21, .ref lp)]) hx hb dL_law_1143 hl (by decide) rfl (fun ls hl => ?_)
          refine lv_aload_n hx hb dL_law_1145 rfl (lv_at hl 3 rfl) ?_
          refine lv_aload hx hb dL_law_1146 (lv_at hl 7 rfl) ?_
          have hPc := hP.sub (ws' := [(lf, .inl (cI, 7, .inl vf)), (lt, .inl (cI, 8, .inl vt))]) [39, 43] rfl
          have hDc := hD.sub (ws' := [(lf, .inl (cI, 7, .inl vf)), (lt, .inl (cI, 8, .inl vt))]) [39, 43] (by decide) rfl
          have hFc := va_free (wc := [(lf, .inl (cI, 7, .inl vf)), (lt, .inl (cI, 8, .inl vt))]) hD hS hA [39, 43] rfl
          refine va_calli (va_runS (As := [.ref lf, .ref lt]) (rest := []) ⟨hx, hb, hml, hown, hts⟩ (c_L_punches l dC dI cI cC cS lf lt _ vf vt hq) (va_cwS 2 hts gL_law_L_punches rfl rfl rfl (by decide +kernel) ⟨Nat.le_of_ble_eq_true rfl, Nat.le_of_ble_eq_true rfl⟩) (gn_preS hPc hK hN hDc) rfl rfl hl.1 rfl (lv_room (Nat.le_of_ble_eq_true rfl)) dL_law_1148 ⟨show _ ≤ (600000 : Nat) by omega, show _ ≤ (7302250 : Nat) by omega⟩) hS (fun q _ h => hFc q h) hFc (fun r_10 u t H1 locs ht hvm hq hB hz1 hk1 hS => ?_)
          obtain ⟨hP1, hK1, hD1⟩ := hB
          rw [ht] at hP1
          try dsimp only at hq
          have hP := gn_ro (wc := [(lf, .inl (cI, 7, .inl vf)), (lt, .inl (cI, 8, .inl vt))]) hP hD [39, 43] rfl hk1 hP1
          generalize H1 = H at hP hS ⊢
          refine W.widen (k := (cn + 1)) (n := (sn + 64)) (by omega) (by omega) ?_
          refine lv_istore (lv' := [(23, .int r_10), (22, .int w22_9), (0, .ref b), (1, .ref aR), (2, .ref lf), (3, .ref lh), (4, .ref lu), (5, .ref ld), (6, .ref lt), (7, .int k7), (17, .int k17), (18, .int k18), (20, .int k20), (21, .ref lp)]) hx hb dL_law_1151 hl (by decide) rfl (fun ls hl => ?_)
          exact next1153 k17 k18 k20 w22_9 r_10 lp _ _ _ ⟨hP, hD, hS⟩ (lv_sub hl [2, 3, 4, 5, 6, 7, 8, 9, 10, 11, 12, 1, 0, 13] rfl) hq)
        refine lv_if_eq (tgt := 1141) hx hb dL_law_1133 (by decide) (fun hc => ?_) (fun hc => ?_)
        · have hq := hq.1 hc
          refine lv_iconst (v := 0) hx hb dL_law_1141 (by decide) ?_
          exact hq _ _ _ ⟨hP, hD, hS⟩ (lv_sub hl [0, 1, 2, 3, 4, 5, 6, 7, 8, 9, 10, 11] rfl)
        · have hq := hq.2 hc
          refine lv_bipush (v := 8) hx hb dL_law_1136 (by decide) ?_
          refine lv_goto (tgt := 1142) hx hb dL_law_1138 (by decide) ?_
          exact hq _ _ _ ⟨hP, hD, hS⟩ (lv_sub hl [0, 1, 2, 3, 4, 5, 6, 7, 8, 9, 10, 11] rfl))
      refine lv_if_eq (tgt := 1126) hx hb dL_law_1119 (by decide) (fun hc => ?_) (fun hc => ?_)
      · have hq := hq.1 hc
        refine lv_iconst (v := 0) hx hb dL_law_1126 (by decide) ?_
        exact hq _ _ _ ⟨hP, hD, hS⟩ (lv_sub hl [0, 1, 2, 3, 4, 5, 6, 7, 8, 9, 10, 11] rfl)
      · have hq := hq.2 hc
        refine lv_iconst (v := 4) hx hb dL_law_1122 (by decide) ?_
        refine lv_goto (tgt := 1127) hx hb dL_law_1123 (by decide) ?_
        exact hq _ _ _ ⟨hP, hD, hS⟩ (lv_sub hl [0, 1, 2, 3, 4, 5, 6, 7, 8, 9, 10, 11] rfl))
    refine lv_if_eq (tgt := 1112) hx hb dL_law_1105 (by decide) (fun hc => ?_) (fun hc => ?_)
    · have hq := hq.1 hc
      refine lv_iconst (v := 0) hx hb dL_law_1112 (by decide) ?_
      exact hq _ _ _ ⟨hP, hD, hS⟩ (lv_sub hl [0, 1, 2, 3, 4, 5, 6, 7, 8, 9, 10, 11] rfl)
    · have hq := hq.2 hc
      refine lv_iconst (v := 2) hx hb dL_law_1108 (by decide) ?_
      refine lv_goto (tgt := 1113) hx hb dL_law_1109 (by decide) ?_
      exact hq _ _ _ ⟨hP, hD, hS⟩ (lv_sub hl [0, 1, 2, 3, 4, 5, 6, 7, 8, 9, 10, 11] rfl))
  refine lv_if_eq (tgt := 1099) hx hb dL_law_1092 (by decide) (fun hc => ?_) (fun hc => ?_)
  · have hq := hq.1 hc
    refine lv_iconst (v := 0) hx hb dL_law_1099 (by decide) ?_
    exact hq _ _ _ ⟨hP, hD, hS⟩ (lv_sub hl [0, 1, 2, 3, 4, 5, 6, 7, 8, 9, 10, 11] rfl)
  · have hq := hq.2 hc
    refine lv_iconst (v := 1) hx hb dL_law_1095 (by decide) ?_
    refine lv_goto (tgt := 1100) hx hb dL_law_1096 (by decide) ?_
    exact hq _ _ _ ⟨hP, hD, hS⟩ (lv_sub hl [0, 1, 2, 3, 4, 5, 6, 7, 8, 9, 10, 11] rfl)
