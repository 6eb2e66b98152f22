def wp_sg_ink (npat : Int64) (ngoal : Int64) (ncol : Nat → Int32) (nmade : Int32) (nmac : Int32) (nks : Nat → Int32) (hkept : Int32) (hks : Nat → Nat → Int32) (hmade : Nat → Int32) (hmac : Nat → Int32) (hcol : Nat → Nat → Int32) (hpat : Nat → Int64) (hgoal : Nat → Int64) (vf : Nat → Int32) (vh : Nat → Int32) (vu : Nat → Int32) (vd : Nat → Int32) (k8 : Int32) (k12 : Int32) (k13 : Int32) (k14 : Int32) (post893 : Int32 → (Nat → Int32) → Int32 → (Nat → Nat → Int32) → (Nat → Int32) → (Nat → Int32) → (Nat → Nat → Int32) → (Nat → Int64) → (Nat → Int64) → (Nat → Int32) → (Nat → Int32) → Prop) : Prop :=
  wp_L_low (k8 >>> ((11 : Int32) &&& (31 : Int32))) (5 : Int32) (fun r_1 => ∀ w16_2 : Int32, w16_2 = ((1 : Int32) + r_1) → wp_L_firstWhole vf vh k13 k14 (fun r_3 => ∀ (P525 : Int32 → Prop), (∀ (t_4 : Int32), (∀ (P566 : (Nat → Int32) → (Nat → Int32) → Prop), (∀ (vu__5 : Nat → Int32) (vd__6 : Nat → Int32), (wp_X5_ink npat ngoal ncol nmade nmac nks hkept hks hmade hmac hcol hpat hgoal k13 k14 w16_2 (fun r_7 ncol__8 hkept__9 hks__10 hmade__11 hmac__12 hcol__13 hpat__14 hgoal__15 => ∀ (P586 : Int32 → Prop), (∀ (t_16 : Int32), (post893 t_16 ncol__8 hkept__9 hks__10 hmade__11 hmac__12 hcol__13 hpat__14 hgoal__15 vu__5 vd__6) → P586 t_16) → ((¬ r_7 = t_4) → P586 (0 : Int32)) ∧ ((r_7 = t_4) → P586 (1 : Int32)))) → P566 vu__5 vd__6) → ∀ (P554 : Prop), ((((t_4 < 0) → P566 vu vd) ∧ ((¬ t_4 < 0) → vp_in t_4 64 ∧ (P566 (upd vu (t_4).toNatClampNeg w16_2) vd))) → P554 ) → ((t_4 < 0) → P554) ∧ ((¬ t_4 < 0) → wp_L_where vf t_4 (fun r_17 => ((r_17 ≤ (4095 : Int32)) → P554) ∧ ((¬ r_17 ≤ (4095 : Int32)) → vp_in t_4 64 ∧ (P566 vu (upd vd (t_4).toNatClampNeg w16_2)))))) → P525 t_4) → ((¬ r_3 = k12) → wp_L_at vf k13 k14 r_3 (fun r_18 => P525 r_18)) ∧ ((r_3 = k12) → P525 (-6 : Int32))))

set_option maxHeartbeats 8000000 in
set_option maxRecDepth 100000 in
theorem sg_ink {p : Program} {l : Launch} {e : Env} {s : State} {m : MethodId} {below : List Frame} {meth : Method} {c : Code} {A : Nat → Prop} {dC : Nat → ClassId} {dI : Nat → Nat → Nat} {cI cC cS : ClassId} {b L : Nat} {xs : Nat → Int32} {Q : State → Prop} (hL : L ≤ 260) (C0 : lw_At p s m meth c b L xs) (hA : ∀ q : Nat, s.heap.size ≤ q → A q) (hbA : ¬ A b) (hN : gn_nw s) (hK : va_K (dC, dI) vwCl (gn_tys cI cC cS) s) (aR : Nat) (naS : Nat) (naC : Nat) (naF : Nat) (naK : Nat) (saS : Nat) (saC : Nat) (saF : Nat) (saK : Nat) (aHi : Nat) (aHA : Nat) (jS : Nat → Nat) (jC : Nat → Nat) (jF : Nat → Nat) (jK : Nat → Nat) (taF : Nat) (taK : Nat) (aT : Nat) (aCH : Nat) (lf : Nat) (lh : Nat) (lu : Nat) (ld : Nat) (lt : Nat) (isSaved : Int32) (npat : Int64) (ngoal : Int64) (ncol : Nat → Int32) (nmade : Int32) (nmac : Int32) (nks : Nat → Int32) (spat : Int64) (sgoal : Int64) (scol : Nat → Int32) (smade : Int32) (smac : Int32) (sks : Nat → Int32) (hkept : Int32) (hks : Nat → Nat → Int32) (hmade : Nat → Int32) (hmac : Nat → Int32) (hcol : Nat → Nat → Int32) (hpat : Nat → Int64) (hgoal : Nat → Int64) (tmade : Int32) (tmac : Int32) (tks : Nat → Int32) (wlen : Int32) (wpos : Int32) (wlet : Int32) (wcol : Int32) (wrow : Int32) (wnum : Int32) (chs : Nat → Int32) (vf : Nat → Int32) (vh : Nat → Int32) (vu : Nat → Int32) (vd : Nat → Int32) (vt : Nat → Int32) (k7 : Int32) (k8 : Int32) (k9 : Int32) (k10 : Int32) (k11 : Int32) (k12 : Int32) (k13 : Int32) (k14 : Int32) (k15 : Int32) (cn sn : Nat) (hcn : cn ≤ 500000) (hsn : sn ≤ 7000000) {post893 : Int32 → (Nat → Int32) → Int32 → (Nat → Nat → Int32) → (Nat → Int32) → (Nat → Int32) → (Nat → Nat → Int32) → (Nat → Int64) → (Nat → Int64) → (Nat → Int32) → (Nat → Int32) → Prop} (hq : wp_sg_ink npat ngoal ncol nmade nmac nks hkept hks hmade hmac hcol hpat hgoal vf vh vu vd k8 k12 k13 k14 post893) (H : Heap) (locs : List Loc) (hI : lwOK (dC, dI) A s (lwW cI cS aR naS naC naF naK saS saC saF saK aHi aHA jS jC jF jK taF taK aT aCH lf lh lu ld lt isSaved npat ngoal ncol nmade nmac nks spat sgoal scol smade smac sks hkept hks hmade hmac hcol hpat hgoal tmade tmac tks wlen wpos wlet wcol wrow wnum chs vf vh vu vd vt) H locs) (ls : Array Slot) (hl : lv_has ls 32 [(0, .ref b), (1, .ref aR), (2, .ref lf), (3, .ref lh), (4, .ref lu), (5, .ref ld), (6, .ref lt), (7, .int k7), (8, .int k8), (9, .int k9), (10, .int k10), (11, .int k11), (12, .int k12), (13, .int k13), (14, .int k14), (15, .int k15)]) (next893 : ∀ (k15' : Int32) (m_ncol : Nat → Int32) (m_hkept : Int32) (m_hks : Nat → Nat → Int32) (m_hmade : Nat → Int32) (m_hmac : Nat → Int32) (m_hcol : Nat → Nat → Int32) (m_hpat : Nat → Int64) (m_hgoal : Nat → Int64) (m_vu : Nat → Int32) (m_vd : Nat → Int32) (jS jC jF jK : Nat → Nat) (H : Heap) (locs : List Loc) (ls : Array Slot), lwOK (dC, dI) A s (lwW cI cS aR naS naC naF naK saS saC saF saK aHi aHA jS jC jF jK taF taK aT aCH lf lh lu ld lt isSaved npat ngoal m_ncol nmade nmac nks spat sgoal scol smade smac sks m_hkept m_hks m_hmade m_hmac m_hcol m_hpat m_hgoal tmade tmac tks wlen wpos wlet wcol wrow wnum chs vf vh m_vu m_vd vt) H locs → lv_has ls 32 [(0, .ref b), (1, .ref aR), (2, .ref lf), (3, .ref lh), (4, .ref lu), (5, .ref ld), (6, .ref lt), (7, .int k7), (15, .int k15')] → post893 k15' m_ncol m_hkept m_hks m_hmade m_hmac m_hcol m_hpat m_hgoal m_vu m_vd → W p l e room_1 s m #[Value.ref b] below meth c H locs cn sn Q (F0 m 893 ls [])) : W p l e room_1 s m #[Value.ref b] below meth c H locs cn sn Q (F0 m 479 ls []) := by
  unfold wp_sg_ink at hq
  obtain ⟨hP, hD, hS⟩ := hI
  obtain ⟨hx, hb, hr, hml, hown, htt, hX, hbl, hlocks, hgv⟩ := C0
  have hts : ∀ w ∈ wsL_law, w.before #[Value.ref b] s = true := fun w h => htt w (wsL_law_in w h)
  have hown : s.vm.findClass RL = some m.cls := hown
  refine lv_iconst (v := 1) hx hb dL_law_479 (by decide) ?_
  refine lv_iload hx hb dL_law_480 (lv_at hl 8 rfl) ?_
  refine lv_bipush (v := 11) hx hb dL_law_482 (by decide) ?_
  refine lv_ishr hx hb dL_law_484 ?_
  refine lv_iconst (v := 5) hx hb dL_law_485 (by decide) ?_
  have hPc := hP.sub (ws' := []) [] rfl
  have hDc := hD.sub (ws' := []) [] (by decide) rfl
  have hFc := va_free (wc := []) hD hS hA [] rfl
  refine va_calli (va_runS (As := [.int (k8 >>> ((11 : Int32) &&& (31 : Int32))), .int (5 : Int32)]) (rest := [.int (1 : Int32)]) ⟨hx, hb, hml, hown, hts⟩ (c_L_low l dC dI cI cC cS _ (k8 >>> ((11 : Int32) &&& (31 : Int32))) (5 : Int32) hq) (va_cwS 2 hts gL_law_L_low rfl rfl rfl (by decide +kernel) ⟨Nat.le_of_ble_eq_true rfl, Nat.le_of_ble_eq_true rfl⟩) (gn_preS hPc hK hN hDc) rfl rfl hl.1 rfl (lv_room (Nat.le_of_ble_eq_true rfl)) dL_law_486 ⟨show _ ≤ (600000 : Nat) by omega, show _ ≤ (7302250 : Nat) by omega⟩) hS (fun q _ h => hFc q h) hFc (fun r_1 u t H1 locs ht hvm hq hB hz1 hk1 hS => ?_)
  obtain ⟨hP1, hK1, hD1⟩ := hB
  rw [ht] at hP1
  try dsimp only at hq
  have hP := gn_ro (wc := []) hP hD [] rfl hk1 hP1
  generalize H1 = H at hP hS ⊢
  refine lv_iadd hx hb dL_law_489 ?_
  refine lv_topi (fun w16_2 ew16_2 => ?_)
  have hq := hq w16_2 ew16_2
  refine lv_istore (lv' := [(16, .int w16_2), (0, .ref b), (1, .ref aR), (2, .ref lf), (3, .ref lh), (4, .ref lu), (5, .ref ld), (6, .ref lt), (7, .int k7), (8, .int k8), (9, .int k9), (10, .int k10), (11, .int k11), (12, .int k12), (13, .int k13), (14, .int k14), (15, .int k15)]) hx hb dL_law_490 hl (by decide) rfl (fun ls hl => ?_)
  refine lv_aload_n hx hb dL_law_492 rfl (lv_at hl 3 rfl) ?_
  refine lv_aload_n hx hb dL_law_493 rfl (lv_at hl 4 rfl) ?_
  refine lv_iload hx hb dL_law_494 (lv_at hl 14 rfl) ?_
  refine lv_iload hx hb dL_law_496 (lv_at hl 15 rfl) ?_
  have hPc := hP.sub (ws' := [(lf, .inl (cI, 7, .inl vf)), (lh, .inl (cI, 64, .inl vh))]) [39, 40] rfl
  have hDc := hD.sub (ws' := [(lf, .inl (cI, 7, .inl vf)), (lh, .inl (cI, 64, .inl vh))]) [39, 40] (by decide) rfl
  have hFc := va_free (wc := [(lf, .inl (cI, 7, .inl vf)), (lh, .inl (cI, 64, .inl vh))]) hD hS hA [39, 40] rfl
  refine va_calli (va_runS (As := [.ref lf, .ref lh, .int k13, .int k14]) (rest := []) ⟨hx, hb, hml, hown, hts⟩ (c_L_firstWhole l dC dI cI cC cS lf lh _ vf vh k13 k14 hq) (va_cwS 4 hts gL_law_L_firstWhole rfl rfl rfl (by decide +kernel) ⟨Nat.le_of_ble_eq_true rfl, Nat.le_of_ble_eq_true rfl⟩) (gn_preS hPc hK hN hDc) rfl rfl hl.1 rfl (lv_room (Nat.le_of_ble_eq_true rfl)) dL_law_498 ⟨show _ ≤ (600000 : Nat) by omega, show _ ≤ (7302250 : Nat) by omega⟩) hS (fun q _ h => hFc q h) hFc (fun r_3 u t H1 locs ht hvm hq hB hz1 hk1 hS => ?_)
  obtain ⟨hP1, hK1, hD1⟩ := hB
  rw [ht] at hP1
  try dsimp only at hq
  have hP := gn_ro (wc := [(lf, .inl (cI, 7, .inl vf)), (lh, .inl (cI, 64, .inl vh))]) hP hD [39, 40] rfl hk1 hP1
  generalize H1 = H at hP hS ⊢
  refine lv_istore (lv' := [(17, .int r_3), (16, .int w16_2), (0, .ref b), (1, .ref aR), (2, .ref lf), (3, .ref lh), (4, .ref lu), (5, .ref ld), (6, .ref lt), (7, .int k7), (8, .int k8), (9, .int k9), (10, .int k10), (11, .int k11), (12, .int k12), (13, .int k13), (14, .int k14), (15, .int k15)]) hx hb dL_law_501 hl (by decide) rfl (fun ls hl => ?_)
  refine lv_iload hx hb dL_law_503 (lv_at hl 0 rfl) ?_
  refine lv_iload hx hb dL_law_505 (lv_at hl 14 rfl) ?_
  have hq := hq (fun (t_4 : Int32) => ∀ (H : Heap) (locs : List Loc) (ls : Array Slot) (jS jC jF jK : Nat → Nat), lwOK (dC, dI) A s (lwW cI cS aR naS naC naF naK saS saC saF saK aHi aHA jS jC jF jK taF taK aT aCH lf lh lu ld lt isSaved npat ngoal ncol nmade nmac nks spat sgoal scol smade smac sks hkept hks hmade hmac hcol hpat hgoal tmade tmac tks wlen wpos wlet wcol wrow wnum chs vf vh vu vd vt) H locs → lv_has ls 32 [(0, .ref b), (1, .ref aR), (2, .ref lf), (3, .ref lh), (4, .ref lu), (5, .ref ld), (6, .ref lt), (7, .int k7), (13, .int k13), (14, .int k14), (16, .int w16_2)] → W p l e room_1 s m #[Value.ref b] below meth c H locs cn sn Q (F0 m 525 ls [.int t_4])) (by
    intro t_4 hq H locs ls jS jC jF jK hI hl
    obtain ⟨hP, hD, hS⟩ := hI
    refine lv_istore (lv' := [(18, .int t_4), (0, .ref b), (1, .ref aR), (2, .ref lf), (3, .ref lh), (4, .ref lu), (5, .ref ld), (6, .ref lt), (7, .int k7), (13, .int k13), (14, .int k14), (16, .int w16_2)]) hx hb dL_law_525 hl (by decide) rfl (fun ls hl => ?_)
    refine lv_iload hx hb dL_law_527 (lv_at hl 0 rfl) ?_
    have hq := hq (fun (vu__5 : Nat → Int32) (vd__6 : Nat → Int32) => ∀ (H : Heap) (locs : List Loc) (ls : Array Slot) (jS jC jF jK : Nat → Nat), lwOK (dC, dI) A s (lwW cI cS aR naS naC naF naK saS saC saF saK aHi aHA jS jC jF jK taF taK aT aCH lf lh lu ld lt isSaved npat ngoal ncol nmade nmac nks spat sgoal scol smade smac sks hkept hks hmade hmac hcol hpat hgoal tmade tmac tks wlen wpos wlet wcol wrow wnum chs vf vh vu__5 vd__6 vt) H locs → lv_has ls 32 [(0, .ref b), (1, .ref aR), (2, .ref lf), (3, .ref lh), (4, .ref lu), (5, .ref ld), (6, .ref lt), (7, .int k7), (13, .int k13), (14, .int k14), (16, .int w16_2), (18, .int t_4)] → W p l e room_1 s m #[Value.ref b] below meth c H locs cn sn Q (F0 m 566 ls [])) (by
      intro vu__5 vd__6 hq H locs ls jS jC jF jK hI hl
      obtain ⟨hP, hD, hS⟩ := hI
      refine lv_aload_n hx hb dL_law_566 rfl (lv_at hl 1 rfl) ?_
      refine lv_iload hx hb dL_law_567 (lv_at hl 8 rfl) ?_
      refine lv_iload hx hb dL_law_569 (lv_at hl 9 rfl) ?_
      refine lv_iload hx hb dL_law_571 (lv_at hl 10 rfl) ?_
      have hPc := hP.sub (ws' := [(aR, .inr (4, [.ref naS, .ref saS, .int isSaved, .ref aHi, .ref taF, .ref aT])), (naS, .inr (2, [.ref naF, .ref naC, .long npat, .long ngoal])), (naC, .inl (cI, 128, .inl ncol)), (naF, .inr (0, [.ref naK, .int nmade, .int nmac])), (naK, .inl (cI, 6, .inl nks)), (aHi, .inr (1, [.ref aHA, .int hkept])), (aHA, .inl (cS, 6, .inr (.inr (.inr (.inr (fun j => some (jS j))))))), (jS 0, .inr (2, [.ref (jF 0), .ref (jC 0), .long (hpat 0), .long (hgoal 0)])), (jC 0, .inl (cI, 128, .inl (hcol 0))), (jF 0, .inr (0, [.ref (jK 0), .int (hmade 0), .int (hmac 0)])), (jK 0, .inl (cI, 6, .inl (hks 0))), (jS 1, .inr (2, [.ref (jF 1), .ref (jC 1), .long (hpat 1), .long (hgoal 1)])), (jC 1, .inl (cI, 128, .inl (hcol 1))), (jF 1, .inr (0, [.ref (jK 1), .int (hmade 1), .int (hmac 1)])), (jK 1, .inl (cI, 6, .inl (hks 1))), (jS 2, .inr (2, [.ref (jF 2), .ref (jC 2), .long (hpat 2), .long (hgoal 2)])), (jC 2, .inl (cI, 128, .inl (hcol 2))), (jF 2, .inr (0, [.ref (jK 2), .int (hmade 2), .int (hmac 2)])), (jK 2, .inl (cI, 6, .inl (hks 2))), (jS 3, .inr (2, [.ref (jF 3), .ref (jC 3), .long (hpat 3), .long (hgoal 3)])), (jC 3, .inl (cI, 128, .inl (hcol 3))), (jF 3, .inr (0, [.ref (jK 3), .int (hmade 3), .int (hmac 3)])), (jK 3, .inl (cI, 6, .inl (hks 3))), (jS 4, .inr (2, [.ref (jF 4), .ref (jC 4), .long (hpat 4), .long (hgoal 4)])), (jC 4, .inl (cI, 128, .inl (hcol 4))), (jF 4, .inr (0, [.ref (jK 4), .int (hmade 4), .int (hmac 4)])), (jK 4, .inl (cI, 6, .inl (hks 4))), (jS 5, .inr (2, [.ref (jF 5), .ref (jC 5), .long (hpat 5), .long (hgoal 5)])), (jC 5, .inl (cI, 128, .inl (hcol 5))), (jF 5, .inr (0, [.ref (jK 5), .int (hmade 5), .int (hmac 5)])), (jK 5, .inl (cI, 6, .inl (hks 5)))]) [0, 1, 2, 3, 4, 9, 10, 11, 12, 13, 14, 15, 16, 17, 18, 19, 20, 21, 22, 23, 24, 25, 26, 27, 28, 29, 30, 31, 32, 33, 34] rfl
      have hDc := hD.sub (ws' := [(aR, .inr (4, [.ref naS, .ref saS, .int isSaved, .ref aHi, .ref taF, .ref aT])), (naS, .inr (2, [.ref naF, .ref naC, .long npat, .long ngoal])), (naC, .inl (cI, 128, .inl ncol)), (naF, .inr (0, [.ref naK, .int nmade, .int nmac])), (naK, .inl (cI, 6, .inl nks)), (aHi, .inr (1, [.ref aHA, .int hkept])), (aHA, .inl (cS, 6, .inr (.inr (.inr (.inr (fun j => some (jS j))))))), (jS 0, .inr (2, [.ref (jF 0), .ref (jC 0), .long (hpat 0), .long (hgoal 0)])), (jC 0, .inl (cI, 128, .inl (hcol 0))), (jF 0, .inr (0, [.ref (jK 0), .int (hmade 0), .int (hmac 0)])), (jK 0, .inl (cI, 6, .inl (hks 0))), (jS 1, .inr (2, [.ref (jF 1), .ref (jC 1), .long (hpat 1), .long (hgoal 1)])), (jC 1, .inl (cI, 128, .inl (hcol 1))), (jF 1, .inr (0, [.ref (jK 1), .int (hmade 1), .int (hmac 1)])), (jK 1, .inl (cI, 6, .inl (hks 1))), (jS 2, .inr (2, [.ref (jF 2), .ref (jC 2), .long (hpat 2), .long (hgoal 2)])), (jC 2, .inl (cI, 128, .inl (hcol 2))), (jF 2, .inr (0, [.ref (jK 2), .int (hmade 2), .int (hmac 2)])), (jK 2, .inl (cI, 6, .inl (hks 2))), (jS 3, .inr (2, [.ref (jF 3), .ref (jC 3), .long (hpat 3), .long (hgoal 3)])), (jC 3, .inl (cI, 128, .inl (hcol 3))), (jF 3, .inr (0, [.ref (jK 3), .int (hmade 3), .int (hmac 3)])), (jK 3, .inl (cI, 6, .inl (hks 3))), (jS 4, .inr (2, [.ref (jF 4), .ref (jC 4), .long (hpat 4), .long (hgoal 4)])), (jC 4, .inl (cI, 128, .inl (hcol 4))), (jF 4, .inr (0, [.ref (jK 4), .int (hmade 4), .int (hmac 4)])), (jK 4, .inl (cI, 6, .inl (hks 4))), (jS 5, .inr (2, [.ref (jF 5), .ref (jC 5), .long (hpat 5), .long (hgoal 5)])), (jC 5, .inl (cI, 128, .inl (hcol 5))), (jF 5, .inr (0, [.ref (jK 5), .int (hmade 5), .int (hmac 5)])), (jK 5, .inl (cI, 6, .inl (hks 5)))]) [0, 1, 2, 3, 4, 9, 10, 11, 12, 13, 14, 15, 16, 17, 18, 19, 20, 21, 22, 23, 24, 25, 26, 27, 28, 29, 30, 31, 32, 33, 34] (by decide) rfl
      have hFc := va_free (wc := [(aR, .inr (4, [.ref naS, .ref saS, .int isSaved, .ref aHi, .ref taF, .ref aT])), (naS, .inr (2, [.ref naF, .ref naC, .long npat, .long ngoal])), (naC, .inl (cI, 128, .inl ncol)), (naF, .inr (0, [.ref naK, .int nmade, .int nmac])), (naK, .inl (cI, 6, .inl nks)), (aHi, .inr (1, [.ref aHA, .int hkept])), (aHA, .inl (cS, 6, .inr (.inr (.inr (.inr (fun j => some (jS j))))))), (jS 0, .inr (2, [.ref (jF 0), .ref (jC 0), .long (hpat 0), .long (hgoal 0)])), (jC 0, .inl (cI, 128, .inl (hcol 0))), (jF 0, .inr (0, [.ref (jK 0), .int (hmade 0), .int (hmac 0)])), (jK 0, .inl (cI, 6, .inl (hks 0))), (jS 1, .inr (2, [.ref (jF 1), .ref (jC 1), .long (hpat 1), .long (hgoal 1)])), (jC 1, .inl (cI, 128, .inl (hcol 1))), (jF 1, .inr (0, [.ref (jK 1), .int (hmade 1), .int (hmac 1)])), (jK 1, .inl (cI, 6, .inl (hks 1))), (jS 2, .inr (2, [.ref (jF 2), .ref (jC 2), .long (hpat 2), .long (hgoal 2)])), (jC 2, .inl (cI, 128, .inl (hcol 2))), (jF 2, .inr (0, [.ref (jK 2), .int (hmade 2), .int (hmac 2)])), (jK 2, .inl (cI, 6, .inl (hks 2))), (jS 3, .inr (2, [.ref (jF 3), .ref (jC 3), .long (hpat 3), .long (hgoal 3)])), (jC 3, .inl (cI, 128, .inl (hcol 3))), (jF 3, .inr (0, [.ref (jK 3), .int (hmade 3), .int (hmac 3)])), (jK 3, .inl (cI, 6, .inl (hks 3))), (jS 4, .inr (2, [.ref (jF 4), .ref (jC 4), .long (hpat 4), .long (hgoal 4)])), (jC 4, .inl (cI, 128, .inl (hcol 4))), (jF 4, .inr (0, [.ref (jK 4), .int (hmade 4), .int (hmac 4)])), (jK 4, .inl (cI, 6, .inl (hks 4))), (jS 5, .inr (2, [.ref (jF 5), .ref (jC 5), .long (hpat 5), .long (hgoal 5)])), (jC 5, .inl (cI, 128, .inl (hcol 5))), (jF 5, .inr (0, [.ref (jK 5), .int (hmade 5), .int (hmac 5)])), (jK 5, .inl (cI, 6, .inl (hks 5)))]) hD hS hA [0, 1, 2, 3, 4, 9, 10, 11, 12, 13, 14, 15, 16, 17, 18, 19, 20, 21, 22, 23, 24, 25, 26, 27, 28, 29, 30, 31, 32, 33, 34] rfl
      refine va_calli (va_runV (As := [.int k13, .int k14, .int w16_2]) (rest := []) ⟨hx, hb, hml, hown, hts⟩ (c_X5_ink l dC dI cI cC cS aR naS naC naF naK saS aHi aHA jS jC jF jK taF aT _ isSaved npat ngoal ncol nmade nmac nks hkept hks hmade hmac hcol hpat hgoal k13 k14 w16_2 hq) (cwV 3 hts gL_law_X5_ink rfl rfl rfl (by decide +kernel) ⟨Nat.le_of_ble_eq_true rfl, Nat.le_of_ble_eq_true rfl⟩) (gn_preV hPc hK hN hDc (ci := 4) (q0 := 0) rfl rfl) rfl rfl hl.1 rfl (lv_room (Nat.le_of_ble_eq_true rfl)) dL_law_573 ⟨show _ ≤ (600000 : Nat) by omega, show _ ≤ (7302250 : Nat) by omega⟩) hS (fun q _ h => hFc q h) hFc (fun r_7 u t H1 locs ht hvm hq hB hz1 hk1 hS => ?_)
      obtain ⟨ncol__8, hkept__9, hks__10, hmade__11, hmac__12, hcol__13, hpat__14, hgoal__15⟩ := u
      obtain ⟨jS, jC, jF, jK, hP1, hK1, hD1⟩ := hB
      rw [ht] at hP1
      try dsimp only at hq
      obtain ⟨hP, hD⟩ := va_join (wr := [(saS, .inr (2, [.ref saF, .ref saC, .long spat, .long sgoal])), (saC, .inl (cI, 128, .inl scol)), (saF, .inr (0, [.ref saK, .int smade, .int smac])), (saK, .inl (cI, 6, .inl sks)), (taF, .inr (0, [.ref taK, .int tmade, .int tmac])), (taK, .inl (cI, 6, .inl tks)), (aT, .inr (3, [.ref aCH, .int wlen, .int wpos, .int wlet, .int wcol, .int wrow, .int wnum])), (aCH, .inl (cI, 60, .inl chs)), (lf, .inl (cI, 7, .inl vf)), (lh, .inl (cI, 64, .inl vh)), (lu, .inl (cI, 64, .inl vu__5)), (ld, .inl (cI, 64, .inl vd__6)), (lt, .inl (cI, 8, .inl vt))]) (w1 := [(aR, .inr (4, [.ref naS, .ref saS, .int isSaved, .ref aHi, .ref taF, .ref aT])), (naS, .inr (2, [.ref naF, .ref naC, .long npat, .long ngoal])), (naC, .inl (cI, 128, .inl ncol__8)), (naF, .inr (0, [.ref naK, .int nmade, .int nmac])), (naK, .inl (cI, 6, .inl nks)), (aHi, .inr (1, [.ref aHA, .int hkept__9])), (aHA, .inl (cS, 6, .inr (.inr (.inr (.inr (fun j => some (jS j))))))), (jS 0, .inr (2, [.ref (jF 0), .ref (jC 0), .long (hpat__14 0), .long (hgoal__15 0)])), (jC 0, .inl (cI, 128, .inl (hcol__13 0))), (jF 0, .inr (0, [.ref (jK 0), .int (hmade__11 0), .int (hmac__12 0)])), (jK 0, .inl (cI, 6, .inl (hks__10 0))), (jS 1, .inr (2, [.ref (jF 1), .ref (jC 1), .long (hpat__14 1), .long (hgoal__15 1)])), (jC 1, .inl (cI, 128, .inl (hcol__13 1))), (jF 1, .inr (0, [.ref (jK 1), .int (hmade__11 1), .int (hmac__12 1)])), (jK 1, .inl (cI, 6, .inl (hks__10 1))), (jS 2, .inr (2, [.ref (jF 2), .ref (jC 2), .long (hpat__14 2), .long (hgoal__15 2)])), (jC 2, .inl (cI, 128, .inl (hcol__13 2))), (jF 2, .inr (0, [.ref (jK 2), .int (hmade__11 2), .int (hmac__12 2)])), (jK 2, .inl (cI, 6, .inl (hks__10 2))), (jS 3, .inr (2, [.ref (jF 3), .ref (jC 3), .long (hpat__14 3), .long (hgoal__15 3)])), (jC 3, .inl (cI, 128, .inl (hcol__13 3))), (jF 3, .inr (0, [.ref (jK 3), .int (hmade__11 3), .int (hmac__12 3)])), (jK 3, .inl (cI, 6, .inl (hks__10 3))), (jS 4, .inr (2, [.ref (jF 4), .ref (jC 4), .long (hpat__14 4), .long (hgoal__15 4)])), (jC 4, .inl (cI, 128, .inl (hcol__13 4))), (jF 4, .inr (0, [.ref (jK 4), .int (hmade__11 4), .int (hmac__12 4)])), (jK 4, .inl (cI, 6, .inl (hks__10 4))), (jS 5, .inr (2, [.ref (jF 5), .ref (jC 5), .long (hpat__14 5), .long (hgoal__15 5)])), (jC 5, .inl (cI, 128, .inl (hcol__13 5))), (jF 5, .inr (0, [.ref (jK 5), .int (hmade__11 5), .int (hmac__12 5)])), (jK 5, .inl (cI, 6, .inl (hks__10 5)))]) hP hD [0, 1, 2, 3, 4, 9, 10, 11, 12, 13, 14, 15, 16, 17, 18, 19, 20, 21, 22, 23, 24, 25, 26, 27, 28, 29, 30, 31, 32, 33, 34] [5, 6, 7, 8, 35, 36, 37, 38, 39, 40, 41, 42, 43] rfl rfl (by decide) (by decide) hk1 hFc hP1 hD1
      have hP := hP.sub (ws' := (lwW cI cS aR naS naC naF naK saS saC saF saK aHi aHA jS jC jF jK taF taK aT aCH lf lh lu ld lt isSaved npat ngoal ncol__8 nmade nmac nks spat sgoal scol smade smac sks hkept__9 hks__10 hmade__11 hmac__12 hcol__13 hpat__14 hgoal__15 tmade tmac tks wlen wpos wlet wcol wrow wnum chs vf vh vu__5 vd__6 vt)) [13, 14, 15, 16, 17, 0, 1, 2, 3, 18, 19, 20, 21, 22, 23, 24, 25, 26, 27, 28, 29, 30, 31, 32, 33, 34, 35, 36, 37, 38, 39, 40, 41, 42, 43, 4, 5, 6, 7, 8, 9, 10, 11, 12] rfl
      have hD := hD.sub (ws' := (lwW cI cS aR naS naC naF naK saS saC saF saK aHi aHA jS jC jF jK taF taK aT aCH lf lh lu ld lt isSaved npat ngoal ncol__8 nmade nmac nks spat sgoal scol smade smac sks hkept__9 hks__10 hmade__11 hmac__12 hcol__13 hpat__14 hgoal__15 tmade tmac tks wlen wpos wlet wcol wrow wnum chs vf vh vu__5 vd__6 vt)) [13, 14, 15, 16, 17, 0, 1, 2, 3, 18, 19, 20, 21, 22, 23, 24, 25, 26, 27, 28, 29, 30, 31, 32, 33, 34, 35, 36, 37, 38, 39, 40, 41, 42, 43, 4, 5, 6, 7, 8, 9, 10, 11, 12] (by decide) rfl
      generalize H1 = H at hP hS ⊢
      refine lv_iload hx hb dL_law_576 (lv_at hl 11 rfl) ?_
      have hq := hq (fun (t_16 : Int32) => ∀ (H : Heap) (locs : List Loc) (ls : Array Slot) (jS jC jF jK : Nat → Nat), lwOK (dC, dI) A s (lwW cI cS aR naS naC naF naK saS saC saF saK aHi aHA jS jC jF jK taF taK aT aCH lf lh lu ld lt isSaved npat ngoal ncol__8 nmade nmac nks spat sgoal scol smade smac sks hkept__9 hks__10 hmade__11 hmac__12 hcol__13 hpat__14 hgoal__15 tmade tmac tks wlen wpos wlet wcol wrow wnum chs vf vh vu__5 vd__6 vt) H locs → lv_has ls 32 [(0, .ref b), (1, .ref aR), (2, .ref lf), (3, .ref lh), (4, .ref lu), (5, .ref ld), (6, .ref lt), (7, .int k7)] → W p l e room_1 s m #[Value.ref b] below meth c H locs cn sn Q (F0 m 586 ls [.int t_16])) (by
        intro t_16 hq H locs ls jS jC jF jK hI hl
        obtain ⟨hP, hD, hS⟩ := hI
        refine lv_istore (lv' := [(15, .int t_16), (0, .ref b), (1, .ref aR), (2, .ref lf), (3, .ref lh), (4, .ref lu), (5, .ref ld), (6, .ref lt), (7, .int k7)]) hx hb dL_law_586 hl (by decide) rfl (fun ls hl => ?_)
        refine lv_goto (tgt := 893) hx hb dL_law_588 (by decide) ?_
        exact next893 t_16 ncol__8 hkept__9 hks__10 hmade__11 hmac__12 hcol__13 hpat__14 hgoal__15 vu__5 vd__6 jS jC jF jK _ _ _ ⟨hP, hD, hS⟩ (lv_sub hl [1, 2, 3, 4, 5, 6, 7, 8, 0] rfl) hq)
      refine lv_icmp_ne (tgt := 585) hx hb dL_law_578 (by decide) (fun hc => ?_) (fun hc => ?_)
      · have hq := hq.1 hc
        refine lv_iconst (v := 0) hx hb dL_law_585 (by decide) ?_
        exact hq _ _ _ _ _ _ _ ⟨hP, hD, hS⟩ (lv_sub hl [0, 1, 2, 3, 4, 5, 6, 7] rfl)
      · have hq := hq.2 hc
        refine lv_iconst (v := 1) hx hb dL_law_581 (by decide) ?_
        refine lv_goto (tgt := 586) hx hb dL_law_582 (by decide) ?_
        exact hq _ _ _ _ _ _ _ ⟨hP, hD, hS⟩ (lv_sub hl [0, 1, 2, 3, 4, 5, 6, 7] rfl))
    have hq := hq (∀ (H : Heap) (locs : List Loc) (ls : Array Slot) (jS jC jF jK : Nat → Nat), lwOK (dC, dI) A s (lwW cI cS aR naS naC naF naK saS saC saF saK aHi aHA jS jC jF jK taF taK aT aCH lf lh lu ld lt isSaved npat ngoal ncol nmade nmac nks spat sgoal scol smade smac sks hkept hks hmade hmac hcol hpat hgoal tmade tmac tks wlen wpos wlet wcol wrow wnum chs vf vh vu vd vt) H locs → lv_has ls 32 [(0, .ref b), (1, .ref aR), (2, .ref lf), (3, .ref lh), (4, .ref lu), (5, .ref ld), (6, .ref lt), (7, .int k7), (13, .int k13), (14, .int k14), (16, .int w16_2), (18, .int t_4)] → W p l e room_1 s m #[Value.ref b] below meth c H locs cn sn Q (F0 m 554 ls [])) (by
      intro  hq H locs ls jS jC jF jK hI hl
      obtain ⟨hP, hD, hS⟩ := hI
      refine lv_iload hx hb dL_law_554 (lv_at hl 11 rfl) ?_
      refine lv_if_lt (tgt := 566) hx hb dL_law_556 (by decide) (fun hc => ?_) (fun hc => ?_)
      · have hq := hq.1 hc
        exact hq _ _ _ _ _ _ _ ⟨hP, hD, hS⟩ (lv_sub hl [0, 1, 2, 3, 4, 5, 6, 7, 8, 9, 10, 11] rfl)
      · have hq := hq.2 hc
        refine lv_aload hx hb dL_law_559 (lv_at hl 4 rfl) ?_
        refine lv_iload hx hb dL_law_561 (lv_at hl 11 rfl) ?_
        refine lv_iload hx hb dL_law_563 (lv_at hl 10 rfl) ?_
        have hin := hq.1
        have hq := hq.2
        refine va_iast hx hb hK hP hD hS 41 0 rfl rfl hin dL_law_565 (fun H locs hP hD hS => ?_)
        have hP : va_P (dC, dI) vwCl (lwW cI cS aR naS naC naF naK saS saC saF saK aHi aHA jS jC jF jK taF taK aT aCH lf lh lu ld lt isSaved npat ngoal ncol nmade nmac nks spat sgoal scol smade smac sks hkept hks hmade hmac hcol hpat hgoal tmade tmac tks wlen wpos wlet wcol wrow wnum chs vf vh (upd vu (t_4).toNatClampNeg w16_2) vd vt) H := hP
        have hD : va_D A (lwW cI cS aR naS naC naF naK saS saC saF saK aHi aHA jS jC jF jK taF taK aT aCH lf lh lu ld lt isSaved npat ngoal ncol nmade nmac nks spat sgoal scol smade smac sks hkept hks hmade hmac hcol hpat hgoal tmade tmac tks wlen wpos wlet wcol wrow wnum chs vf vh (upd vu (t_4).toNatClampNeg w16_2) vd vt) := hD
        exact hq _ _ _ _ _ _ _ ⟨hP, hD, hS⟩ (lv_sub hl [0, 1, 2, 3, 4, 5, 6, 7, 8, 9, 10, 11] rfl))
    refine lv_if_lt (tgt := 554) hx hb dL_law_529 (by decide) (fun hc => ?_) (fun hc => ?_)
    · have hq := hq.1 hc
      exact hq _ _ _ _ _ _ _ ⟨hP, hD, hS⟩ (lv_sub hl [1, 2, 3, 4, 5, 6, 7, 8, 9, 10, 11, 0] rfl)
    · have hq := hq.2 hc
      refine lv_aload_n hx hb dL_law_532 rfl (lv_at hl 3 rfl) ?_
      refine lv_iload hx hb dL_law_533 (lv_at hl 0 rfl) ?_
      have hPc := hP.sub (ws' := [(lf, .inl (cI, 7, .inl vf))]) [39] rfl
      have hDc := hD.sub (ws' := [(lf, .inl (cI, 7, .inl vf))]) [39] (by decide) rfl
      have hFc := va_free (wc := [(lf, .inl (cI, 7, .inl vf))]) hD hS hA [39] rfl
      refine va_calli (va_runS (As := [.ref lf, .int t_4]) (rest := []) ⟨hx, hb, hml, hown, hts⟩ (c_L_where l dC dI cI cC cS lf _ vf t_4 hq) (va_cwS 2 hts gL_law_L_where rfl rfl rfl (by decide +kernel) ⟨Nat.le_of_ble_eq_true rfl, Nat.le_of_ble_eq_true rfl⟩) (gn_preS hPc hK hN hDc) rfl rfl hl.1 rfl (lv_room (Nat.le_of_ble_eq_true rfl)) dL_law_535 ⟨show _ ≤ (600000 : Nat) by omega, show _ ≤ (7302250 : Nat) by omega⟩) hS (fun q _ h => hFc q h) hFc (fun r_17 u t H1 locs ht hvm hq hB hz1 hk1 hS => ?_)
      obtain ⟨hP1, hK1, hD1⟩ := hB
      rw [ht] at hP1
      try dsimp only at hq
      have hP := gn_ro (wc := [(lf, .inl (cI, 7, .inl vf))]) hP hD [39] rfl hk1 hP1
      generalize H1 = H at hP hS ⊢
      refine lv_sipush (v := 4095) hx hb dL_law_538 (by decide) ?_
      refine lv_icmp_le (tgt := 554) hx hb dL_law_541 (by decide) (fun hc => ?_) (fun hc => ?_)
      · have hq := hq.1 hc
        exact hq _ _ _ _ _ _ _ ⟨hP, hD, hS⟩ (lv_sub hl [1, 2, 3, 4, 5, 6, 7, 8, 9, 10, 11, 0] rfl)
      · have hq := hq.2 hc
        refine lv_aload hx hb dL_law_544 (lv_at hl 6 rfl) ?_
        refine lv_iload hx hb dL_law_546 (lv_at hl 0 rfl) ?_
        refine lv_iload hx hb dL_law_548 (lv_at hl 11 rfl) ?_
        have hin := hq.1
        have hq := hq.2
        refine va_iast hx hb hK hP hD hS 42 0 rfl rfl hin dL_law_550 (fun H locs hP hD hS => ?_)
        have hP : va_P (dC, dI) vwCl (lwW cI cS aR naS naC naF naK saS saC saF saK aHi aHA jS jC jF jK taF taK aT aCH lf lh lu ld lt isSaved npat ngoal ncol nmade nmac nks spat sgoal scol smade smac sks hkept hks hmade hmac hcol hpat hgoal tmade tmac tks wlen wpos wlet wcol wrow wnum chs vf vh vu (upd vd (t_4).toNatClampNeg w16_2) vt) H := hP
        have hD : va_D A (lwW cI cS aR naS naC naF naK saS saC saF saK aHi aHA jS jC jF jK taF taK aT aCH lf lh lu ld lt isSaved npat ngoal ncol nmade nmac nks spat sgoal scol smade smac sks hkept hks hmade hmac hcol hpat hgoal tmade tmac tks wlen wpos wlet wcol wrow wnum chs vf vh vu (upd vd (t_4).toNatClampNeg w16_2) vt) := hD
        refine lv_goto (tgt := 566) hx hb dL_law_551 (by decide) ?_
        exact hq _ _ _ _ _ _ _ ⟨hP, hD, hS⟩ (lv_sub hl [1, 2, 3, 4, 5, 6, 7, 8, 9, 10, 11, 0] rfl))
  refine lv_icmp_ne (tgt := 515) hx hb dL_law_507 (by decide) (fun hc => ?_) (fun hc => ?_)
  · have hq := hq.1 hc
    refine lv_aload_n hx hb dL_law_515 rfl (lv_at hl 4 rfl) ?_
    refine lv_iload hx hb dL_law_516 (lv_at hl 15 rfl) ?_
    refine lv_iload hx hb dL_law_518 (lv_at hl 16 rfl) ?_
    refine lv_iload hx hb dL_law_520 (lv_at hl 0 rfl) ?_
    have hPc := hP.sub (ws' := [(lf, .inl (cI, 7, .inl vf))]) [39] rfl
    have hDc := hD.sub (ws' := [(lf, .inl (cI, 7, .inl vf))]) [39] (by decide) rfl
    have hFc := va_free (wc := [(lf, .inl (cI, 7, .inl vf))]) hD hS hA [39] rfl
    refine va_calli (va_runS (As := [.ref lf, .int k13, .int k14, .int r_3]) (rest := []) ⟨hx, hb, hml, hown, hts⟩ (c_L_at l dC dI cI cC cS lf _ vf k13 k14 r_3 hq) (va_cwS 4 hts gL_law_L_at rfl rfl rfl (by decide +kernel) ⟨Nat.le_of_ble_eq_true rfl, Nat.le_of_ble_eq_true rfl⟩) (gn_preS hPc hK hN hDc) rfl rfl hl.1 rfl (lv_room (Nat.le_of_ble_eq_true rfl)) dL_law_522 ⟨show _ ≤ (600000 : Nat) by omega, show _ ≤ (7302250 : Nat) by omega⟩) hS (fun q _ h => hFc q h) hFc (fun r_18 u t H1 locs ht hvm hq hB hz1 hk1 hS => ?_)
    obtain ⟨hP1, hK1, hD1⟩ := hB
    rw [ht] at hP1
    try dsimp only at hq
    have hP := gn_ro (wc := [(lf, .inl (cI, 7, .inl vf))]) hP hD [39] rfl hk1 hP1
    generalize H1 = H at hP hS ⊢
    exact hq _ _ _ _ _ _ _ ⟨hP, hD, hS⟩ (lv_sub hl [2, 3, 4, 5, 6, 7, 8, 9, 15, 16, 1] rfl)
  · have hq := hq.2 hc
    refine lv_bipush (v := -6) hx hb dL_law_510 (by decide) ?_
    refine lv_goto (tgt := 525) hx hb dL_law_512 (by decide) ?_
    exact hq _ _ _ _ _ _ _ ⟨hP, hD, hS⟩ (lv_sub hl [2, 3, 4, 5, 6, 7, 8, 9, 15, 16, 1] rfl)
