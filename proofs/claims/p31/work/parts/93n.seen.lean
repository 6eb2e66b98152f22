def wp_sg_seen (npat : Int64) (ngoal : Int64) (ncol : Nat → Int32) (nmade : Int32) (nmac : Int32) (nks : Nat → Int32) (vp : Nat → Int32) (k17 : Int32) (k18 : Int32) (k20 : Int32) (k22 : Int32) (k23 : Int32) (post1215 : Prop) : Prop :=
  wp_X5_seen npat ncol nmade nmac nks k17 k18 (fun r_1 => ((¬ r_1 = k20) → False) ∧ ((r_1 = k20) → wp_X5_ifPunched npat nmade nmac nks k17 k18 (fun r_2 => wp_L_pieces vp (fun r_3 => ((¬ r_2 = (r_3 - r_3 / (100 : Int32) * (100 : Int32))) → False) ∧ ((r_2 = (r_3 - r_3 / (100 : Int32) * (100 : Int32))) → wp_X5_symmetries npat (fun r_4 => ((¬ r_4 = k22) → False) ∧ ((r_4 = k22) → wp_X5_punches ngoal nmade nmac nks (fun r_5 => ∀ (P1210 : Int32 → Prop), (∀ (t_6 : Int32), (((r_5 = t_6) → post1215) ∧ ((¬ r_5 = t_6) → False)) → P1210 t_6) → ((0 ≤ k23) → P1210 k23) ∧ ((¬ 0 ≤ k23) → P1210 (-6 : Int32))))))))))

set_option maxHeartbeats 8000000 in
set_option maxRecDepth 100000 in
theorem sg_seen {p : Program} {l : Launch} {e : Env} {s : State} {m : MethodId} {below : List Frame} {meth : Method} {c : Code} {A : Nat → Prop} {dC : Nat → ClassId} {dI : Nat → Nat → Nat} {cI cC cS : ClassId} {b L : Nat} {xs : Nat → Int32} {Q : State → Prop} (hL : L ≤ 260) (C0 : lw_At p s m meth c b L xs) (hA : ∀ q : Nat, s.heap.size ≤ q → A q) (hbA : ¬ A b) (hN : gn_nw s) (hK : va_K (dC, dI) vwCl (gn_tys cI cC cS) s) (aR : Nat) (naS : Nat) (naC : Nat) (naF : Nat) (naK : Nat) (saS : Nat) (saC : Nat) (saF : Nat) (saK : Nat) (aHi : Nat) (aHA : Nat) (jS : Nat → Nat) (jC : Nat → Nat) (jF : Nat → Nat) (jK : Nat → Nat) (taF : Nat) (taK : Nat) (aT : Nat) (aCH : Nat) (lf : Nat) (lh : Nat) (lu : Nat) (ld : Nat) (lt : Nat) (lp : Nat) (isSaved : Int32) (npat : Int64) (ngoal : Int64) (ncol : Nat → Int32) (nmade : Int32) (nmac : Int32) (nks : Nat → Int32) (spat : Int64) (sgoal : Int64) (scol : Nat → Int32) (smade : Int32) (smac : Int32) (sks : Nat → Int32) (hkept : Int32) (hks : Nat → Nat → Int32) (hmade : Nat → Int32) (hmac : Nat → Int32) (hcol : Nat → Nat → Int32) (hpat : Nat → Int64) (hgoal : Nat → Int64) (tmade : Int32) (tmac : Int32) (tks : Nat → Int32) (wlen : Int32) (wpos : Int32) (wlet : Int32) (wcol : Int32) (wrow : Int32) (wnum : Int32) (chs : Nat → Int32) (vf : Nat → Int32) (vh : Nat → Int32) (vu : Nat → Int32) (vd : Nat → Int32) (vt : Nat → Int32) (vp : Nat → Int32) (k7 : Int32) (k17 : Int32) (k18 : Int32) (k20 : Int32) (k22 : Int32) (k23 : Int32) (cn sn : Nat) (hcn : cn ≤ 500000) (hsn : sn ≤ 7000000) {post1215 : Prop} (hq : wp_sg_seen npat ngoal ncol nmade nmac nks vp k17 k18 k20 k22 k23 post1215) (H : Heap) (locs : List Loc) (hI : lwOK (dC, dI) A s (lwWp cI cS aR naS naC naF naK saS saC saF saK aHi aHA jS jC jF jK taF taK aT aCH lf lh lu ld lt lp isSaved npat ngoal ncol nmade nmac nks spat sgoal scol smade smac sks hkept hks hmade hmac hcol hpat hgoal tmade tmac tks wlen wpos wlet wcol wrow wnum chs vf vh vu vd vt vp) H locs) (ls : Array Slot) (hl : lv_has ls 32 [(0, .ref b), (1, .ref aR), (2, .ref lf), (3, .ref lh), (4, .ref lu), (5, .ref ld), (6, .ref lt), (7, .int k7), (17, .int k17), (18, .int k18), (20, .int k20), (22, .int k22), (23, .int k23), (21, .ref lp)]) (next1215 : ∀  (H : Heap) (locs : List Loc) (ls : Array Slot), lwOK (dC, dI) A s (lwW cI cS aR naS naC naF naK saS saC saF saK aHi aHA jS jC jF jK taF taK aT aCH lf lh lu ld lt isSaved npat ngoal ncol nmade nmac nks spat sgoal scol smade smac sks hkept hks hmade hmac hcol hpat hgoal tmade tmac tks wlen wpos wlet wcol wrow wnum chs vf vh vu vd vt) H locs → lv_has ls 32 [(0, .ref b), (1, .ref aR), (2, .ref lf), (3, .ref lh), (4, .ref lu), (5, .ref ld), (6, .ref lt), (7, .int k7)] → post1215  → W p l e room_1 s m #[Value.ref b] below meth c H locs (cn + 2) (sn + 128) Q (F0 m 1215 ls [])) : W p l e room_1 s m #[Value.ref b] below meth c H locs cn sn Q (F0 m 1153 ls []) := by
  unfold wp_sg_seen at hq
  obtain ⟨hP, hD, hS⟩ := hI
  obtain ⟨hx, hb, hr, hml, hown, htt, hX, hbl, hlocks, hgv⟩ := C0
  have hts : ∀ w ∈ wsL_law, w.before #[Value.ref b] s = true := fun w h => htt w (wsL_law_in w h)
  have hown : s.vm.findClass RL = some m.cls := hown
  refine lv_aload_n hx hb dL_law_1153 rfl (lv_at hl 1 rfl) ?_
  refine lv_iload hx hb dL_law_1154 (lv_at hl 8 rfl) ?_
  refine lv_iload hx hb dL_law_1156 (lv_at hl 9 rfl) ?_
  have hPc := hP.sub (ws' := [(aR, .inr (4, [.ref naS, .ref saS, .int isSaved, .ref aHi, .ref taF, .ref aT])), (naS, .inr (2, [.ref naF, .ref naC, .long npat, .long ngoal])), (naC, .inl (cI, 128, .inl ncol)), (naF, .inr (0, [.ref naK, .int nmade, .int nmac])), (naK, .inl (cI, 6, .inl nks))]) [0, 1, 2, 3, 4] rfl
  have hDc := hD.sub (ws' := [(aR, .inr (4, [.ref naS, .ref saS, .int isSaved, .ref aHi, .ref taF, .ref aT])), (naS, .inr (2, [.ref naF, .ref naC, .long npat, .long ngoal])), (naC, .inl (cI, 128, .inl ncol)), (naF, .inr (0, [.ref naK, .int nmade, .int nmac])), (naK, .inl (cI, 6, .inl nks))]) [0, 1, 2, 3, 4] (by decide) rfl
  have hFc := va_free (wc := [(aR, .inr (4, [.ref naS, .ref saS, .int isSaved, .ref aHi, .ref taF, .ref aT])), (naS, .inr (2, [.ref naF, .ref naC, .long npat, .long ngoal])), (naC, .inl (cI, 128, .inl ncol)), (naF, .inr (0, [.ref naK, .int nmade, .int nmac])), (naK, .inl (cI, 6, .inl nks))]) hD hS hA [0, 1, 2, 3, 4] rfl
  refine va_calli (va_runV (As := [.int k17, .int k18]) (rest := []) ⟨hx, hb, hml, hown, hts⟩ (c_X5_seen l dC dI cI cC cS aR naS naC naF naK saS aHi taF aT _ isSaved npat ngoal ncol nmade nmac nks k17 k18 hq) (cwV 2 hts gL_law_X5_seen rfl rfl rfl (by decide +kernel) ⟨Nat.le_of_ble_eq_true rfl, Nat.le_of_ble_eq_true rfl⟩) (gn_preV hPc hK hN hDc (ci := 4) (q0 := 0) rfl rfl) rfl rfl hl.1 rfl (lv_room (Nat.le_of_ble_eq_true rfl)) dL_law_1158 ⟨show _ ≤ (600000 : Nat) by omega, show _ ≤ (7302250 : Nat) by omega⟩) hS (fun q _ h => hFc q h) hFc (fun r_1 u t H1 locs ht hvm hq hB hz1 hk1 hS => ?_)
  obtain ⟨hP1, hK1, hD1⟩ := hB
  rw [ht] at hP1
  try dsimp only at hq
  have hP := gn_ro (wc := [(aR, .inr (4, [.ref naS, .ref saS, .int isSaved, .ref aHi, .ref taF, .ref aT])), (naS, .inr (2, [.ref naF, .ref naC, .long npat, .long ngoal])), (naC, .inl (cI, 128, .inl ncol)), (naF, .inr (0, [.ref naK, .int nmade, .int nmac])), (naK, .inl (cI, 6, .inl nks))]) hP hD [0, 1, 2, 3, 4] rfl hk1 hP1
  generalize H1 = H at hP hS ⊢
  refine lv_iload hx hb dL_law_1161 (lv_at hl 10 rfl) ?_
  refine lv_icmp_ne (tgt := 1213) hx hb dL_law_1163 (by decide) (fun hc => ?_) (fun hc => ?_)
  · have hq := hq.1 hc
    refine lv_iconst (v := 0) hx hb dL_law_1213 (by decide) ?_
    exact hq.elim
  · have hq := hq.2 hc
    refine lv_aload_n hx hb dL_law_1166 rfl (lv_at hl 1 rfl) ?_
    refine lv_iload hx hb dL_law_1167 (lv_at hl 8 rfl) ?_
    refine lv_iload hx hb dL_law_1169 (lv_at hl 9 rfl) ?_
    have hPc := hP.sub (ws' := [(aR, .inr (4, [.ref naS, .ref saS, .int isSaved, .ref aHi, .ref taF, .ref aT])), (naS, .inr (2, [.ref naF, .ref naC, .long npat, .long ngoal])), (naF, .inr (0, [.ref naK, .int nmade, .int nmac])), (naK, .inl (cI, 6, .inl nks))]) [0, 1, 3, 4] rfl
    have hDc := hD.sub (ws' := [(aR, .inr (4, [.ref naS, .ref saS, .int isSaved, .ref aHi, .ref taF, .ref aT])), (naS, .inr (2, [.ref naF, .ref naC, .long npat, .long ngoal])), (naF, .inr (0, [.ref naK, .int nmade, .int nmac])), (naK, .inl (cI, 6, .inl nks))]) [0, 1, 3, 4] (by decide) rfl
    have hFc := va_free (wc := [(aR, .inr (4, [.ref naS, .ref saS, .int isSaved, .ref aHi, .ref taF, .ref aT])), (naS, .inr (2, [.ref naF, .ref naC, .long npat, .long ngoal])), (naF, .inr (0, [.ref naK, .int nmade, .int nmac])), (naK, .inl (cI, 6, .inl nks))]) hD hS hA [0, 1, 3, 4] rfl
    refine va_calli (va_runV (As := [.int k17, .int k18]) (rest := []) ⟨hx, hb, hml, hown, hts⟩ (c_X5_ifPunched l dC dI cI cC cS aR naS naC naF naK saS aHi taF aT _ isSaved npat ngoal nmade nmac nks k17 k18 hq) (cwV 2 hts gL_law_X5_ifPunched rfl rfl rfl (by decide +kernel) ⟨Nat.le_of_ble_eq_true rfl, Nat.le_of_ble_eq_true rfl⟩) (gn_preV hPc hK hN hDc (ci := 4) (q0 := 0) rfl rfl) rfl rfl hl.1 rfl (lv_room (Nat.le_of_ble_eq_true rfl)) dL_law_1171 ⟨show _ ≤ (600000 : Nat) by omega, show _ ≤ (7302250 : Nat) by omega⟩) hS (fun q _ h => hFc q h) hFc (fun r_2 u t H1 locs ht hvm hq hB hz1 hk1 hS => ?_)
    obtain ⟨hP1, hK1, hD1⟩ := hB
    rw [ht] at hP1
    try dsimp only at hq
    have hP := gn_ro (wc := [(aR, .inr (4, [.ref naS, .ref saS, .int isSaved, .ref aHi, .ref taF, .ref aT])), (naS, .inr (2, [.ref naF, .ref naC, .long npat, .long ngoal])), (naF, .inr (0, [.ref naK, .int nmade, .int nmac])), (naK, .inl (cI, 6, .inl nks))]) hP hD [0, 1, 3, 4] rfl hk1 hP1
    generalize H1 = H at hP hS ⊢
    refine lv_aload hx hb dL_law_1174 (lv_at hl 13 rfl) ?_
    have hPc := hP.sub (ws' := [(lp, .inl (cI, 64, .inl vp))]) [44] rfl
    have hDc := hD.sub (ws' := [(lp, .inl (cI, 64, .inl vp))]) [44] (by decide) rfl
    have hFc := va_free (wc := [(lp, .inl (cI, 64, .inl vp))]) hD hS hA [44] rfl
    refine va_calli (va_runS (As := [.ref lp]) (rest := [.int r_2]) ⟨hx, hb, hml, hown, hts⟩ (c_L_pieces l dC dI cI cC cS lp _ vp hq) (va_cwS 1 hts gL_law_L_pieces rfl rfl rfl (by decide +kernel) ⟨Nat.le_of_ble_eq_true rfl, Nat.le_of_ble_eq_true rfl⟩) (gn_preS hPc hK hN hDc) rfl rfl hl.1 rfl (lv_room (Nat.le_of_ble_eq_true rfl)) dL_law_1176 ⟨show _ ≤ (600000 : Nat) by omega, show _ ≤ (7302250 : Nat) by omega⟩) hS (fun q _ h => hFc q h) hFc (fun r_3 u t H1 locs ht hvm hq hB hz1 hk1 hS => ?_)
    obtain ⟨hP1, hK1, hD1⟩ := hB
    rw [ht] at hP1
    try dsimp only at hq
    have hP := gn_ro (wc := [(lp, .inl (cI, 64, .inl vp))]) hP hD [44] rfl hk1 hP1
    generalize H1 = H at hP hS ⊢
    refine W.widen (k := (cn + 2)) (n := (sn + 128)) (by omega) (by omega) ?_
    refine lv_bipush (v := 100) hx hb dL_law_1179 (by decide) ?_
    refine lv_irem hx hb dL_law_1181 (by decide) ?_
    refine lv_icmp_ne (tgt := 1213) hx hb dL_law_1182 (by decide) (fun hc => ?_) (fun hc => ?_)
    · have hq := hq.1 hc
      refine lv_iconst (v := 0) hx hb dL_law_1213 (by decide) ?_
      exact hq.elim
    · have hq := hq.2 hc
      refine lv_aload_n hx hb dL_law_1185 rfl (lv_at hl 1 rfl) ?_
      have hPc := hP.sub (ws' := [(aR, .inr (4, [.ref naS, .ref saS, .int isSaved, .ref aHi, .ref taF, .ref aT])), (naS, .inr (2, [.ref naF, .ref naC, .long npat, .long ngoal]))]) [0, 1] rfl
      have hDc := hD.sub (ws' := [(aR, .inr (4, [.ref naS, .ref saS, .int isSaved, .ref aHi, .ref taF, .ref aT])), (naS, .inr (2, [.ref naF, .ref naC, .long npat, .long ngoal]))]) [0, 1] (by decide) rfl
      have hFc := va_free (wc := [(aR, .inr (4, [.ref naS, .ref saS, .int isSaved, .ref aHi, .ref taF, .ref aT])), (naS, .inr (2, [.ref naF, .ref naC, .long npat, .long ngoal]))]) hD hS hA [0, 1] rfl
      refine va_calli (va_runV (As := []) (rest := []) ⟨hx, hb, hml, hown, hts⟩ (c_X5_symmetries l dC dI cI cC cS aR naS naC naF saS aHi taF aT _ isSaved npat ngoal hq) (cwV 0 hts gL_law_X5_symmetries rfl rfl rfl (by decide +kernel) ⟨Nat.le_of_ble_eq_true rfl, Nat.le_of_ble_eq_true rfl⟩) (gn_preV hPc hK hN hDc (ci := 4) (q0 := 0) rfl rfl) rfl rfl hl.1 rfl (lv_room (Nat.le_of_ble_eq_true rfl)) dL_law_1186 ⟨show _ ≤ (600000 : Nat) by omega, show _ ≤ (7302250 : Nat) by omega⟩) hS (fun q _ h => hFc q h) hFc (fun r_4 u t H1 locs ht hvm hq hB hz1 hk1 hS => ?_)
      obtain ⟨hP1, hK1, hD1⟩ := hB
      rw [ht] at hP1
      try dsimp only at hq
      have hP := gn_ro (wc := [(aR, .inr (4, [.ref naS, .ref saS, .int isSaved, .ref aHi, .ref taF, .ref aT])), (naS, .inr (2, [.ref naF, .ref naC, .long npat, .long ngoal]))]) hP hD [0, 1] rfl hk1 hP1
      generalize H1 = H at hP hS ⊢
      refine lv_iload hx hb dL_law_1189 (lv_at hl 11 rfl) ?_
      refine lv_icmp_ne (tgt := 1213) hx hb dL_law_1191 (by decide) (fun hc => ?_) (fun hc => ?_)
      · have hq := hq.1 hc
        refine lv_iconst (v := 0) hx hb dL_law_1213 (by decide) ?_
        exact hq.elim
      · have hq := hq.2 hc
        refine lv_aload_n hx hb dL_law_1194 rfl (lv_at hl 1 rfl) ?_
        have hPc := hP.sub (ws' := [(aR, .inr (4, [.ref naS, .ref saS, .int isSaved, .ref aHi, .ref taF, .ref aT])), (naS, .inr (2, [.ref naF, .ref naC, .long npat, .long ngoal])), (naF, .inr (0, [.ref naK, .int nmade, .int nmac])), (naK, .inl (cI, 6, .inl nks))]) [0, 1, 3, 4] rfl
        have hDc := hD.sub (ws' := [(aR, .inr (4, [.ref naS, .ref saS, .int isSaved, .ref aHi, .ref taF, .ref aT])), (naS, .inr (2, [.ref naF, .ref naC, .long npat, .long ngoal])), (naF, .inr (0, [.ref naK, .int nmade, .int nmac])), (naK, .inl (cI, 6, .inl nks))]) [0, 1, 3, 4] (by decide) rfl
        have hFc := va_free (wc := [(aR, .inr (4, [.ref naS, .ref saS, .int isSaved, .ref aHi, .ref taF, .ref aT])), (naS, .inr (2, [.ref naF, .ref naC, .long npat, .long ngoal])), (naF, .inr (0, [.ref naK, .int nmade, .int nmac])), (naK, .inl (cI, 6, .inl nks))]) hD hS hA [0, 1, 3, 4] rfl
        refine va_calli (va_runV (As := []) (rest := []) ⟨hx, hb, hml, hown, hts⟩ (c_X5_punches l dC dI cI cC cS aR naS naC naF naK saS aHi taF aT _ isSaved npat ngoal nmade nmac nks hq) (cwV 0 hts gL_law_X5_punches rfl rfl rfl (by decide +kernel) ⟨Nat.le_of_ble_eq_true rfl, Nat.le_of_ble_eq_true rfl⟩) (gn_preV hPc hK hN hDc (ci := 4) (q0 := 0) rfl rfl) rfl rfl hl.1 rfl (lv_room (Nat.le_of_ble_eq_true rfl)) dL_law_1195 ⟨show _ ≤ (600000 : Nat) by omega, show _ ≤ (7302250 : Nat) by omega⟩) hS (fun q _ h => hFc q h) hFc (fun r_5 u t H1 locs ht hvm hq hB hz1 hk1 hS => ?_)
        obtain ⟨hP1, hK1, hD1⟩ := hB
        rw [ht] at hP1
        try dsimp only at hq
        have hP := gn_ro (wc := [(aR, .inr (4, [.ref naS, .ref saS, .int isSaved, .ref aHi, .ref taF, .ref aT])), (naS, .inr (2, [.ref naF, .ref naC, .long npat, .long ngoal])), (naF, .inr (0, [.ref naK, .int nmade, .int nmac])), (naK, .inl (cI, 6, .inl nks))]) hP hD [0, 1, 3, 4] rfl hk1 hP1
        generalize H1 = H at hP hS ⊢
        refine lv_iload hx hb dL_law_1198 (lv_at hl 12 rfl) ?_
        have hq := hq (fun (t_6 : Int32) => ∀ (H : Heap) (locs : List Loc) (ls : Array Slot), lwOK (dC, dI) A s (lwWp cI cS aR naS naC naF naK saS saC saF saK aHi aHA jS jC jF jK taF taK aT aCH lf lh lu ld lt lp isSaved npat ngoal ncol nmade nmac nks spat sgoal scol smade smac sks hkept hks hmade hmac hcol hpat hgoal tmade tmac tks wlen wpos wlet wcol wrow wnum chs vf vh vu vd vt vp) H locs → lv_has ls 32 [(0, .ref b), (1, .ref aR), (2, .ref lf), (3, .ref lh), (4, .ref lu), (5, .ref ld), (6, .ref lt), (7, .int k7)] → W p l e room_1 s m #[Value.ref b] below meth c H locs (cn + 2) (sn + 128) Q (F0 m 1210 ls [.int t_6, .int r_5])) (by
          intro t_6 hq H locs ls hI hl
          obtain ⟨hP, hD, hS⟩ := hI
          refine lv_icmp_eq (tgt := 1215) hx hb dL_law_1210 (by decide) (fun hc => ?_) (fun hc => ?_)
          · have hq := hq.1 hc
            have hP := hP.sub (ws' := (lwW cI cS aR naS naC naF naK saS saC saF saK aHi aHA jS jC jF jK taF taK aT aCH lf lh lu ld lt isSaved npat ngoal ncol nmade nmac nks spat sgoal scol smade smac sks hkept hks hmade hmac hcol hpat hgoal tmade tmac tks wlen wpos wlet wcol wrow wnum chs vf vh vu vd vt)) [0, 1, 2, 3, 4, 5, 6, 7, 8, 9, 10, 11, 12, 13, 14, 15, 16, 17, 18, 19, 20, 21, 22, 23, 24, 25, 26, 27, 28, 29, 30, 31, 32, 33, 34, 35, 36, 37, 38, 39, 40, 41, 42, 43] rfl
            have hD := hD.sub (ws' := (lwW cI cS aR naS naC naF naK saS saC saF saK aHi aHA jS jC jF jK taF taK aT aCH lf lh lu ld lt isSaved npat ngoal ncol nmade nmac nks spat sgoal scol smade smac sks hkept hks hmade hmac hcol hpat hgoal tmade tmac tks wlen wpos wlet wcol wrow wnum chs vf vh vu vd vt)) [0, 1, 2, 3, 4, 5, 6, 7, 8, 9, 10, 11, 12, 13, 14, 15, 16, 17, 18, 19, 20, 21, 22, 23, 24, 25, 26, 27, 28, 29, 30, 31, 32, 33, 34, 35, 36, 37, 38, 39, 40, 41, 42, 43] (by decide) rfl
            exact next1215  _ _ _ ⟨hP, hD, hS⟩ (lv_sub hl [0, 1, 2, 3, 4, 5, 6, 7] rfl) hq
          · have hq := hq.2 hc
            refine lv_iconst (v := 0) hx hb dL_law_1213 (by decide) ?_
            exact hq.elim)
        refine lv_if_ge (tgt := 1208) hx hb dL_law_1200 (by decide) (fun hc => ?_) (fun hc => ?_)
        · have hq := hq.1 hc
          refine lv_iload hx hb dL_law_1208 (lv_at hl 12 rfl) ?_
          exact hq _ _ _ ⟨hP, hD, hS⟩ (lv_sub hl [0, 1, 2, 3, 4, 5, 6, 7] rfl)
        · have hq := hq.2 hc
          refine lv_bipush (v := -6) hx hb dL_law_1203 (by decide) ?_
          refine lv_goto (tgt := 1210) hx hb dL_law_1205 (by decide) ?_
          exact hq _ _ _ ⟨hP, hD, hS⟩ (lv_sub hl [0, 1, 2, 3, 4, 5, 6, 7] rfl)
