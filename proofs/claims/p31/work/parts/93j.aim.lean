def wp_sg_aim (npat : Int64) (ngoal : Int64) (ncol : Nat → Int32) (nmade : Int32) (nmac : Int32) (nks : Nat → Int32) (hkept : Int32) (hks : Nat → Nat → Int32) (hmade : Nat → Int32) (hmac : Nat → Int32) (hcol : Nat → Nat → Int32) (hpat : Nat → Int64) (hgoal : Nat → Int64) (vt : Nat → Int32) (k8 : Int32) (post893 : Int32 → Int64 → Int32 → (Nat → Nat → Int32) → (Nat → Int32) → (Nat → Int32) → (Nat → Nat → Int32) → (Nat → Int64) → (Nat → Int64) → (Nat → Int32) → Prop) : Prop :=
  wp_L_low (k8 >>> ((11 : Int32) &&& (31 : Int32))) (8 : Int32) (fun r_1 => wp_L_low (k8 >>> ((25 : Int32) &&& (31 : Int32))) (2 : Int32) (fun r_2 => ∀ (P835 : Int32 → Prop), (∀ (t_3 : Int32), (wp_L_low (k8 >>> ((14 : Int32) &&& (31 : Int32))) t_3 (fun r_4 => wp_L_low (k8 >>> ((26 : Int32) &&& (31 : Int32))) (2 : Int32) (fun r_5 => ∀ (P856 : Int32 → Prop), (∀ (t_6 : Int32), (∀ w17_7 : Int32, w17_7 = ((r_4 * t_6) &&& (255 : Int32)) → wp_X5_aim npat ngoal ncol nmade nmac nks hkept hks hmade hmac hcol hpat hgoal r_1 w17_7 (fun r_8 ngoal__9 hkept__10 hks__11 hmade__12 hmac__13 hcol__14 hpat__15 hgoal__16 => vp_in r_1 8 ∧ (∀ (P884 : Int32 → Prop), (∀ (t_17 : Int32), (vp_in r_1 8 ∧ (post893 t_17 ngoal__9 hkept__10 hks__11 hmade__12 hmac__13 hcol__14 hpat__15 hgoal__16 (upd vt (r_1).toNatClampNeg w17_7))) → P884 t_17) → ((¬ r_8 = (vt (r_1).toNatClampNeg)) → P884 (0 : Int32)) ∧ ((r_8 = (vt (r_1).toNatClampNeg)) → P884 (1 : Int32))))) → P856 t_6) → ((¬ r_5 = 0) → P856 (85 : Int32)) ∧ ((r_5 = 0) → P856 (1 : Int32))))) → P835 t_3) → ((¬ r_2 = 0) → P835 (4 : Int32)) ∧ ((r_2 = 0) → P835 (256 : Int32))))

set_option maxHeartbeats 8000000 in
set_option maxRecDepth 100000 in
theorem sg_aim {p : Program} {l : Launch} {e : Env} {s : State} {m : MethodId} {below : List Frame} {meth : Method} {c : Code} {A : Nat → Prop} {dC : Nat → ClassId} {dI : Nat → Nat → Nat} {cI cC cS : ClassId} {b L : Nat} {xs : Nat → Int32} {Q : State → Prop} (hL : L ≤ 260) (C0 : lw_At p s m meth c b L xs) (hA : ∀ q : Nat, s.heap.size ≤ q → A q) (hbA : ¬ A b) (hN : gn_nw s) (hK : va_K (dC, dI) vwCl (gn_tys cI cC cS) s) (aR : Nat) (naS : Nat) (naC : Nat) (naF : Nat) (naK : Nat) (saS : Nat) (saC : Nat) (saF : Nat) (saK : Nat) (aHi : Nat) (aHA : Nat) (jS : Nat → Nat) (jC : Nat → Nat) (jF : Nat → Nat) (jK : Nat → Nat) (taF : Nat) (taK : Nat) (aT : Nat) (aCH : Nat) (lf : Nat) (lh : Nat) (lu : Nat) (ld : Nat) (lt : Nat) (isSaved : Int32) (npat : Int64) (ngoal : Int64) (ncol : Nat → Int32) (nmade : Int32) (nmac : Int32) (nks : Nat → Int32) (spat : Int64) (sgoal : Int64) (scol : Nat → Int32) (smade : Int32) (smac : Int32) (sks : Nat → Int32) (hkept : Int32) (hks : Nat → Nat → Int32) (hmade : Nat → Int32) (hmac : Nat → Int32) (hcol : Nat → Nat → Int32) (hpat : Nat → Int64) (hgoal : Nat → Int64) (tmade : Int32) (tmac : Int32) (tks : Nat → Int32) (wlen : Int32) (wpos : Int32) (wlet : Int32) (wcol : Int32) (wrow : Int32) (wnum : Int32) (chs : Nat → Int32) (vf : Nat → Int32) (vh : Nat → Int32) (vu : Nat → Int32) (vd : Nat → Int32) (vt : Nat → Int32) (k7 : Int32) (k8 : Int32) (k9 : Int32) (k10 : Int32) (k11 : Int32) (k12 : Int32) (k13 : Int32) (k14 : Int32) (k15 : Int32) (cn sn : Nat) (hcn : cn ≤ 500000) (hsn : sn ≤ 7000000) {post893 : Int32 → Int64 → Int32 → (Nat → Nat → Int32) → (Nat → Int32) → (Nat → Int32) → (Nat → Nat → Int32) → (Nat → Int64) → (Nat → Int64) → (Nat → Int32) → Prop} (hq : wp_sg_aim npat ngoal ncol nmade nmac nks hkept hks hmade hmac hcol hpat hgoal vt k8 post893) (H : Heap) (locs : List Loc) (hI : lwOK (dC, dI) A s (lwW cI cS aR naS naC naF naK saS saC saF saK aHi aHA jS jC jF jK taF taK aT aCH lf lh lu ld lt isSaved npat ngoal ncol nmade nmac nks spat sgoal scol smade smac sks hkept hks hmade hmac hcol hpat hgoal tmade tmac tks wlen wpos wlet wcol wrow wnum chs vf vh vu vd vt) H locs) (ls : Array Slot) (hl : lv_has ls 32 [(0, .ref b), (1, .ref aR), (2, .ref lf), (3, .ref lh), (4, .ref lu), (5, .ref ld), (6, .ref lt), (7, .int k7), (8, .int k8), (9, .int k9), (10, .int k10), (11, .int k11), (12, .int k12), (13, .int k13), (14, .int k14), (15, .int k15)]) (next893 : ∀ (k15' : Int32) (m_ngoal : Int64) (m_hkept : Int32) (m_hks : Nat → Nat → Int32) (m_hmade : Nat → Int32) (m_hmac : Nat → Int32) (m_hcol : Nat → Nat → Int32) (m_hpat : Nat → Int64) (m_hgoal : Nat → Int64) (m_vt : Nat → Int32) (jS jC jF jK : Nat → Nat) (H : Heap) (locs : List Loc) (ls : Array Slot), lwOK (dC, dI) A s (lwW cI cS aR naS naC naF naK saS saC saF saK aHi aHA jS jC jF jK taF taK aT aCH lf lh lu ld lt isSaved npat m_ngoal ncol nmade nmac nks spat sgoal scol smade smac sks m_hkept m_hks m_hmade m_hmac m_hcol m_hpat m_hgoal tmade tmac tks wlen wpos wlet wcol wrow wnum chs vf vh vu vd m_vt) H locs → lv_has ls 32 [(0, .ref b), (1, .ref aR), (2, .ref lf), (3, .ref lh), (4, .ref lu), (5, .ref ld), (6, .ref lt), (7, .int k7), (15, .int k15')] → post893 k15' m_ngoal m_hkept m_hks m_hmade m_hmac m_hcol m_hpat m_hgoal m_vt → W p l e room_1 s m #[Value.ref b] below meth c H locs cn sn Q (F0 m 893 ls [])) : W p l e room_1 s m #[Value.ref b] below meth c H locs cn sn Q (F0 m 799 ls []) := by
  unfold wp_sg_aim at hq
  obtain ⟨hP, hD, hS⟩ := hI
  obtain ⟨hx, hb, hr, hml, hown, htt, hX, hbl, hlocks, hgv⟩ := C0
  have hts : ∀ w ∈ wsL_law, w.before #[Value.ref b] s = true := fun w h => htt w (wsL_law_in w h)
  have hown : s.vm.findClass RL = some m.cls := hown
  refine lv_iload hx hb dL_law_799 (lv_at hl 8 rfl) ?_
  refine lv_bipush (v := 11) hx hb dL_law_801 (by decide) ?_
  refine lv_ishr hx hb dL_law_803 ?_
  refine lv_bipush (v := 8) hx hb dL_law_804 (by decide) ?_
  have hPc := hP.sub (ws' := []) [] rfl
  have hDc := hD.sub (ws' := []) [] (by decide) rfl
  have hFc := va_free (wc := []) hD hS hA [] rfl
  refine va_calli (va_runS (As := [.int (k8 >>> ((11 : Int32) &&& (31 : Int32))), .int (8 : Int32)]) (rest := []) ⟨hx, hb, hml, hown, hts⟩ (c_L_low l dC dI cI cC cS _ (k8 >>> ((11 : Int32) &&& (31 : Int32))) (8 : Int32) hq) (va_cwS 2 hts gL_law_L_low rfl rfl rfl (by decide +kernel) ⟨Nat.le_of_ble_eq_true rfl, Nat.le_of_ble_eq_true rfl⟩) (gn_preS hPc hK hN hDc) rfl rfl hl.1 rfl (lv_room (Nat.le_of_ble_eq_true rfl)) dL_law_806 ⟨show _ ≤ (600000 : Nat) by omega, show _ ≤ (7302250 : Nat) by omega⟩) hS (fun q _ h => hFc q h) hFc (fun r_1 u t H1 locs ht hvm hq hB hz1 hk1 hS => ?_)
  obtain ⟨hP1, hK1, hD1⟩ := hB
  rw [ht] at hP1
  try dsimp only at hq
  have hP := gn_ro (wc := []) hP hD [] rfl hk1 hP1
  generalize H1 = H at hP hS ⊢
  refine lv_istore (lv' := [(16, .int r_1), (0, .ref b), (1, .ref aR), (2, .ref lf), (3, .ref lh), (4, .ref lu), (5, .ref ld), (6, .ref lt), (7, .int k7), (8, .int k8), (9, .int k9), (10, .int k10), (11, .int k11), (12, .int k12), (13, .int k13), (14, .int k14), (15, .int k15)]) hx hb dL_law_809 hl (by decide) rfl (fun ls hl => ?_)
  refine lv_iload hx hb dL_law_811 (lv_at hl 9 rfl) ?_
  refine lv_bipush (v := 14) hx hb dL_law_813 (by decide) ?_
  refine lv_ishr hx hb dL_law_815 ?_
  refine lv_iload hx hb dL_law_816 (lv_at hl 9 rfl) ?_
  refine lv_bipush (v := 25) hx hb dL_law_818 (by decide) ?_
  refine lv_ishr hx hb dL_law_820 ?_
  refine lv_iconst (v := 2) hx hb dL_law_821 (by decide) ?_
  have hPc := hP.sub (ws' := []) [] rfl
  have hDc := hD.sub (ws' := []) [] (by decide) rfl
  have hFc := va_free (wc := []) hD hS hA [] rfl
  refine va_calli (va_runS (As := [.int (k8 >>> ((25 : Int32) &&& (31 : Int32))), .int (2 : Int32)]) (rest := [.int (k8 >>> ((14 : Int32) &&& (31 : Int32)))]) ⟨hx, hb, hml, hown, hts⟩ (c_L_low l dC dI cI cC cS _ (k8 >>> ((25 : Int32) &&& (31 : Int32))) (2 : Int32) hq) (va_cwS 2 hts gL_law_L_low rfl rfl rfl (by decide +kernel) ⟨Nat.le_of_ble_eq_true rfl, Nat.le_of_ble_eq_true rfl⟩) (gn_preS hPc hK hN hDc) rfl rfl hl.1 rfl (lv_room (Nat.le_of_ble_eq_true rfl)) dL_law_822 ⟨show _ ≤ (600000 : Nat) by omega, show _ ≤ (7302250 : Nat) by omega⟩) hS (fun q _ h => hFc q h) hFc (fun r_2 u t H1 locs ht hvm hq hB hz1 hk1 hS => ?_)
  obtain ⟨hP1, hK1, hD1⟩ := hB
  rw [ht] at hP1
  try dsimp only at hq
  have hP := gn_ro (wc := []) hP hD [] rfl hk1 hP1
  generalize H1 = H at hP hS ⊢
  have hq := hq (fun (t_3 : Int32) => ∀ (H : Heap) (locs : List Loc) (ls : Array Slot) (jS jC jF jK : Nat → Nat), lwOK (dC, dI) A s (lwW cI cS aR naS naC naF naK saS saC saF saK aHi aHA jS jC jF jK taF taK aT aCH lf lh lu ld lt isSaved npat ngoal ncol nmade nmac nks spat sgoal scol smade smac sks hkept hks hmade hmac hcol hpat hgoal tmade tmac tks wlen wpos wlet wcol wrow wnum chs vf vh vu vd vt) H locs → lv_has ls 32 [(0, .ref b), (1, .ref aR), (2, .ref lf), (3, .ref lh), (4, .ref lu), (5, .ref ld), (6, .ref lt), (7, .int k7), (8, .int k8), (16, .int r_1)] → W p l e room_1 s m #[Value.ref b] below meth c H locs cn sn Q (F0 m 835 ls [.int t_3, .int (k8 >>> ((14 : Int32) &&& (31 : Int32)))])) (by
    intro t_3 hq H locs ls jS jC jF jK hI hl
    obtain ⟨hP, hD, hS⟩ := hI
    have hPc := hP.sub (ws' := []) [] rfl
    have hDc := hD.sub (ws' := []) [] (by decide) rfl
    have hFc := va_free (wc := []) hD hS hA [] rfl
    refine va_calli (va_runS (As := [.int (k8 >>> ((14 : Int32) &&& (31 : Int32))), .int t_3]) (rest := []) ⟨hx, hb, hml, hown, hts⟩ (c_L_low l dC dI cI cC cS _ (k8 >>> ((14 : Int32) &&& (31 : Int32))) t_3 hq) (va_cwS 2 hts gL_law_L_low rfl rfl rfl (by decide +kernel) ⟨Nat.le_of_ble_eq_true rfl, Nat.le_of_ble_eq_true rfl⟩) (gn_preS hPc hK hN hDc) rfl rfl hl.1 rfl (lv_room (Nat.le_of_ble_eq_true rfl)) dL_law_835 ⟨show _ ≤ (600000 : Nat) by omega, show _ ≤ (7302250 : Nat) by omega⟩) hS (fun q _ h => hFc q h) hFc (fun r_4 u t H1 locs ht hvm hq hB hz1 hk1 hS => ?_)
    obtain ⟨hP1, hK1, hD1⟩ := hB
    rw [ht] at hP1
    try dsimp only at hq
    have hP := gn_ro (wc := []) hP hD [] rfl hk1 hP1
    generalize H1 = H at hP hS ⊢
    refine lv_iload hx hb dL_law_838 (lv_at hl 8 rfl) ?_
    refine lv_bipush (v := 26) hx hb dL_law_840 (by decide) ?_
    refine lv_ishr hx hb dL_law_842 ?_
    refine lv_iconst (v := 2) hx hb dL_law_843 (by decide) ?_
    have hPc := hP.sub (ws' := []) [] rfl
    have hDc := hD.sub (ws' := []) [] (by decide) rfl
    have hFc := va_free (wc := []) hD hS hA [] rfl
    refine va_calli (va_runS (As := [.int (k8 >>> ((26 : Int32) &&& (31 : Int32))), .int (2 : Int32)]) (rest := [.int r_4]) ⟨hx, hb, hml, hown, hts⟩ (c_L_low l dC dI cI cC cS _ (k8 >>> ((26 : Int32) &&& (31 : Int32))) (2 : Int32) hq) (va_cwS 2 hts gL_law_L_low rfl rfl rfl (by decide +kernel) ⟨Nat.le_of_ble_eq_true rfl, Nat.le_of_ble_eq_true rfl⟩) (gn_preS hPc hK hN hDc) rfl rfl hl.1 rfl (lv_room (Nat.le_of_ble_eq_true rfl)) dL_law_844 ⟨show _ ≤ (600000 : Nat) by omega, show _ ≤ (7302250 : Nat) by omega⟩) hS (fun q _ h => hFc q h) hFc (fun r_5 u t H1 locs ht hvm hq hB hz1 hk1 hS => ?_)
    obtain ⟨hP1, hK1, hD1⟩ := hB
    rw [ht] at hP1
    try dsimp only at hq
    have hP := gn_ro (wc := []) hP hD [] rfl hk1 hP1
    generalize H1 = H at hP hS ⊢
    have hq := hq (fun (t_6 : Int32) => ∀ (H : Heap) (locs : List Loc) (ls : Array Slot) (jS jC jF jK : Nat → Nat), lwOK (dC, dI) A s (lwW cI cS aR naS naC naF naK saS saC saF saK aHi aHA jS jC jF jK taF taK aT aCH lf lh lu ld lt isSaved npat ngoal ncol nmade nmac nks spat sgoal scol smade smac sks hkept hks hmade hmac hcol hpat hgoal tmade tmac tks wlen wpos wlet wcol wrow wnum chs vf vh vu vd vt) H locs → lv_has ls 32 [(0, .ref b), (1, .ref aR), (2, .ref lf), (3, .ref lh), (4, .ref lu), (5, .ref ld), (6, .ref lt), (7, .int k7), (16, .int r_1)] → W p l e room_1 s m #[Value.ref b] below meth c H locs cn sn Q (F0 m 856 ls [.int t_6, .int r_4])) (by
      intro t_6 hq H locs ls jS jC jF jK hI hl
      obtain ⟨hP, hD, hS⟩ := hI
      refine lv_imul hx hb dL_law_856 ?_
      refine lv_sipush (v := 255) hx hb dL_law_857 (by decide) ?_
      refine lv_iand hx hb dL_law_860 ?_
      refine lv_topi (fun w17_7 ew17_7 => ?_)
      have hq := hq w17_7 ew17_7
      refine lv_istore (lv' := [(17, .int w17_7), (0, .ref b), (1, .ref aR), (2, .ref lf), (3, .ref lh), (4, .ref lu), (5, .ref ld), (6, .ref lt), (7, .int k7), (16, .int r_1)]) hx hb dL_law_861 hl (by decide) rfl (fun ls hl => ?_)
      refine lv_aload_n hx hb dL_law_863 rfl (lv_at hl 2 rfl) ?_
      refine lv_iload hx hb dL_law_864 (lv_at hl 9 rfl) ?_
      refine lv_iload hx hb dL_law_866 (lv_at hl 0 rfl) ?_
      have hPc := hP.sub (ws' := [(aR, .inr (4, [.ref naS, .ref saS, .int isSaved, .ref aHi, .ref taF, .ref aT])), (naS, .inr (2, [.ref naF, .ref naC, .long npat, .long ngoal])), (naC, .inl (cI, 128, .inl ncol)), (naF, .inr (0, [.ref naK, .int nmade, .int nmac])), (naK, .inl (cI, 6, .inl nks)), (aHi, .inr (1, [.ref aHA, .int hkept])), (aHA, .inl (cS, 6, .inr (.inr (.inr (.inr (fun j => some (jS j))))))), (jS 0, .inr (2, [.ref (jF 0), .ref (jC 0), .long (hpat 0), .long (hgoal 0)])), (jC 0, .inl (cI, 128, .inl (hcol 0))), (jF 0, .inr (0, [.ref (jK 0), .int (hmade 0), .int (hmac 0)])), (jK 0, .inl (cI, 6, .inl (hks 0))), (jS 1, .inr (2, [.ref (jF 1), .ref (jC 1), .long (hpat 1), .long (hgoal 1)])), (jC 1, .inl (cI, 128, .inl (hcol 1))), (jF 1, .inr (0, [.ref (jK 1), .int (hmade 1), .int (hmac 1)])), (jK 1, .inl (cI, 6, .inl (hks 1))), (jS 2, .inr (2, [.ref (jF 2), .ref (jC 2), .long (hpat 2), .long (hgoal 2)])), (jC 2, .inl (cI, 128, .inl (hcol 2))), (jF 2, .inr (0, [.ref (jK 2), .int (hmade 2), .int (hmac 2)])), (jK 2, .inl (cI, 6, .inl (hks 2))), (jS 3, .inr (2, [.ref (jF 3), .ref (jC 3), .long (hpat 3), .long (hgoal 3)])), (jC 3, .inl (cI, 128, .inl (hcol 3))), (jF 3, .inr (0, [.ref (jK 3), .int (hmade 3), .int (hmac 3)])), (jK 3, .inl (cI, 6, .inl (hks 3))), (jS 4, .inr (2, [.ref (jF 4), .ref (jC 4), .long (hpat 4), .long (hgoal 4)])), (jC 4, .inl (cI, 128, .inl (hcol 4))), (jF 4, .inr (0, [.ref (jK 4), .int (hmade 4), .int (hmac 4)])), (jK 4, .inl (cI, 6, .inl (hks 4))), (jS 5, .inr (2, [.ref (jF 5), .ref (jC 5), .long (hpat 5), .long (hgoal 5)])), (jC 5, .inl (cI, 128, .inl (hcol 5))), (jF 5, .inr (0, [.ref (jK 5), .int (hmade 5), .int (hmac 5)])), (jK 5, .inl (cI, 6, .inl (hks 5)))]) [0, 1, 2, 3, 4, 9, 10, 11, 12, 13, 14, 15, 16, 17, 18, 19, 20, 21, 22, 23, 24, 25, 26, 27, 28, 29, 30, 31, 32, 33, 34] rfl
      have hDc := hD.sub (ws' := [(aR, .inr (4, [.ref naS, .ref saS, .int isSaved, .ref aHi, .ref taF, .ref aT])), (naS, .inr (2, [.ref naF, .ref naC, .long npat, .long ngoal])), (naC, .inl (cI, 128, .inl ncol)), (naF, .inr (0, [.ref naK, .int nmade, .int nmac])), (naK, .inl (cI, 6, .inl nks)), (aHi, .inr (1, [.ref aHA, .int hkept])), (aHA, .inl (cS, 6, .inr (.inr (.inr (.inr (fun j => some (jS j))))))), (jS 0, .inr (2, [.ref (jF 0), .ref (jC 0), .long (hpat 0), .long (hgoal 0)])), (jC 0, .inl (cI, 128, .inl (hcol 0))), (jF 0, .inr (0, [.ref (jK 0), .int (hmade 0), .int (hmac 0)])), (jK 0, .inl (cI, 6, .inl (hks 0))), (jS 1, .inr (2, [.ref (jF 1), .ref (jC 1), .long (hpat 1), .long (hgoal 1)])), (jC 1, .inl (cI, 128, .inl (hcol 1))), (jF 1, .inr (0, [.ref (jK 1), .int (hmade 1), .int (hmac 1)])), (jK 1, .inl (cI, 6, .inl (hks 1))), (jS 2, .inr (2, [.ref (jF 2), .ref (jC 2), .long (hpat 2), .long (hgoal 2)])), (jC 2, .inl (cI, 128, .inl (hcol 2))), (jF 2, .inr (0, [.ref (jK 2), .int (hmade 2), .int (hmac 2)])), (jK 2, .inl (cI, 6, .inl (hks 2))), (jS 3, .inr (2, [.ref (jF 3), .ref (jC 3), .long (hpat 3), .long (hgoal 3)])), (jC 3, .inl (cI, 128, .inl (hcol 3))), (jF 3, .inr (0, [.ref (jK 3), .int (hmade 3), .int (hmac 3)])), (jK 3, .inl (cI, 6, .inl (hks 3))), (jS 4, .inr (2, [.ref (jF 4), .ref (jC 4), .long (hpat 4), .long (hgoal 4)])), (jC 4, .inl (cI, 128, .inl (hcol 4))), (jF 4, .inr (0, [.ref (jK 4), .int (hmade 4), .int (hmac 4)])), (jK 4, .inl (cI, 6, .inl (hks 4))), (jS 5, .inr (2, [.ref (jF 5), .ref (jC 5), .long (hpat 5), .long (hgoal 5)])), (jC 5, .inl (cI, 128, .inl (hcol 5))), (jF 5, .inr (0, [.ref (jK 5), .int (hmade 5), .int (hmac 5)])), (jK 5, .inl (cI, 6, .inl (hks 5)))]) [0, 1, 2, 3, 4, 9, 10, 11, 12, 13, 14, 15, 16, 17, 18, 19, 20, 21, 22, 23, 24, 25, 26, 27, 28, 29, 30, 31, 32, 33, 34] (by decide) rfl
      have hFc := va_free (wc := [(aR, .inr (4, [.ref naS, .ref saS, .int isSaved, .ref aHi, .ref taF, .ref aT])), (naS, .inr (2, [.ref naF, .ref naC, .long npat, .long ngoal])), (naC, .inl (cI, 128, .inl ncol)), (naF, .inr (0, [.ref naK, .int nmade, .int nmac])), (naK, .inl (cI, 6, .inl nks)), (aHi, .inr (1, [.ref aHA, .int hkept])), (aHA, .inl (cS, 6, .inr (.inr (.inr (.inr (fun j => some (jS j))))))), (jS 0, .inr (2, [.ref (jF 0), .ref (jC 0), .long (hpat 0), .long (hgoal 0)])), (jC 0, .inl (cI, 128, .inl (hcol 0))), (jF 0, .inr (0, [.ref (jK 0), .int (hmade 0), .int (hmac 0)])), (jK 0, .inl (cI, 6, .inl (hks 0))), (jS 1, .inr (2, [.ref (jF 1), .ref (jC 1), .long (hpat 1), .long (hgoal 1)])), (jC 1, .inl (cI, 128, .inl (hcol 1))), (jF 1, .inr (0, [.ref (jK 1), .int (hmade 1), .int (hmac 1)])), (jK 1, .inl (cI, 6, .inl (hks 1))), (jS 2, .inr (2, [.ref (jF 2), .ref (jC 2), .long (hpat 2), .long (hgoal 2)])), (jC 2, .inl (cI, 128, .inl (hcol 2))), (jF 2, .inr (0, [.ref (jK 2), .int (hmade 2), .int (hmac 2)])), (jK 2, .inl (cI, 6, .inl (hks 2))), (jS 3, .inr (2, [.ref (jF 3), .ref (jC 3), .long (hpat 3), .long (hgoal 3)])), (jC 3, .inl (cI, 128, .inl (hcol 3))), (jF 3, .inr (0, [.ref (jK 3), .int (hmade 3), .int (hmac 3)])), (jK 3, .inl (cI, 6, .inl (hks 3))), (jS 4, .inr (2, [.ref (jF 4), .ref (jC 4), .long (hpat 4), .long (hgoal 4)])), (jC 4, .inl (cI, 128, .inl (hcol 4))), (jF 4, .inr (0, [.ref (jK 4), .int (hmade 4), .int (hmac 4)])), (jK 4, .inl (cI, 6, .inl (hks 4))), (jS 5, .inr (2, [.ref (jF 5), .ref (jC 5), .long (hpat 5), .long (hgoal 5)])), (jC 5, .inl (cI, 128, .inl (hcol 5))), (jF 5, .inr (0, [.ref (jK 5), .int (hmade 5), .int (hmac 5)])), (jK 5, .inl (cI, 6, .inl (hks 5)))]) hD hS hA [0, 1, 2, 3, 4, 9, 10, 11, 12, 13, 14, 15, 16, 17, 18, 19, 20, 21, 22, 23, 24, 25, 26, 27, 28, 29, 30, 31, 32, 33, 34] rfl
      refine va_calli (va_runV (As := [.int r_1, .int w17_7]) (rest := []) ⟨hx, hb, hml, hown, hts⟩ (c_X5_aim l dC dI cI cC cS aR naS naC naF naK saS aHi aHA jS jC jF jK taF aT _ isSaved npat ngoal ncol nmade nmac nks hkept hks hmade hmac hcol hpat hgoal r_1 w17_7 hq) (cwV 2 hts gL_law_X5_aim rfl rfl rfl (by decide +kernel) ⟨Nat.le_of_ble_eq_true rfl, Nat.le_of_ble_eq_true rfl⟩) (gn_preV hPc hK hN hDc (ci := 4) (q0 := 0) rfl rfl) rfl rfl hl.1 rfl (lv_room (Nat.le_of_ble_eq_true rfl)) dL_law_868 ⟨show _ ≤ (600000 : Nat) by omega, show _ ≤ (7302250 : Nat) by omega⟩) hS (fun q _ h => hFc q h) hFc (fun r_8 u t H1 locs ht hvm hq hB hz1 hk1 hS => ?_)
      obtain ⟨ngoal__9, hkept__10, hks__11, hmade__12, hmac__13, hcol__14, hpat__15, hgoal__16⟩ := u
      obtain ⟨jS, jC, jF, jK, hP1, hK1, hD1⟩ := hB
      rw [ht] at hP1
      try dsimp only at hq
      obtain ⟨hP, hD⟩ := va_join (wr := [(saS, .inr (2, [.ref saF, .ref saC, .long spat, .long sgoal])), (saC, .inl (cI, 128, .inl scol)), (saF, .inr (0, [.ref saK, .int smade, .int smac])), (saK, .inl (cI, 6, .inl sks)), (taF, .inr (0, [.ref taK, .int tmade, .int tmac])), (taK, .inl (cI, 6, .inl tks)), (aT, .inr (3, [.ref aCH, .int wlen, .int wpos, .int wlet, .int wcol, .int wrow, .int wnum])), (aCH, .inl (cI, 60, .inl chs)), (lf, .inl (cI, 7, .inl vf)), (lh, .inl (cI, 64, .inl vh)), (lu, .inl (cI, 64, .inl vu)), (ld, .inl (cI, 64, .inl vd)), (lt, .inl (cI, 8, .inl vt))]) (w1 := [(aR, .inr (4, [.ref naS, .ref saS, .int isSaved, .ref aHi, .ref taF, .ref aT])), (naS, .inr (2, [.ref naF, .ref naC, .long npat, .long ngoal__9])), (naC, .inl (cI, 128, .inl ncol)), (naF, .inr (0, [.ref naK, .int nmade, .int nmac])), (naK, .inl (cI, 6, .inl nks)), (aHi, .inr (1, [.ref aHA, .int hkept__10])), (aHA, .inl (cS, 6, .inr (.inr (.inr (.inr (fun j => some (jS j))))))), (jS 0, .inr (2, [.ref (jF 0), .ref (jC 0), .long (hpat__15 0), .long (hgoal__16 0)])), (jC 0, .inl (cI, 128, .inl (hcol__14 0))), (jF 0, .inr (0, [.ref (jK 0), .int (hmade__12 0), .int (hmac__13 0)])), (jK 0, .inl (cI, 6, .inl (hks__11 0))), (jS 1, .inr (2, [.ref (jF 1), .ref (jC 1), .long (hpat__15 1), .long (hgoal__16 1)])), (jC 1, .inl (cI, 128, .inl (hcol__14 1))), (jF 1, .inr (0, [.ref (jK 1), .int (hmade__12 1), .int (hmac__13 1)])), (jK 1, .inl (cI, 6, .inl (hks__11 1))), (jS 2, .inr (2, [.ref (jF 2), .ref (jC 2), .long (hpat__15 2), .long (hgoal__16 2)])), (jC 2, .inl (cI, 128, .inl (hcol__14 2))), (jF 2, .inr (0, [.ref (jK 2), .int (hmade__12 2), .int (hmac__13 2)])), (jK 2, .inl (cI, 6, .inl (hks__11 2))), (jS 3, .inr (2, [.ref (jF 3), .ref (jC 3), .long (hpat__15 3), .long (hgoal__16 3)])), (jC 3, .inl (cI, 128, .inl (hcol__14 3))), (jF 3, .inr (0, [.ref (jK 3), .int (hmade__12 3), .int (hmac__13 3)])), (jK 3, .inl (cI, 6, .inl (hks__11 3))), (jS 4, .inr (2, [.ref (jF 4), .ref (jC 4), .long (hpat__15 4), .long (hgoal__16 4)])), (jC 4, .inl (cI, 128, .inl (hcol__14 4))), (jF 4, .inr (0, [.ref (jK 4), .int (hmade__12 4), .int (hmac__13 4)])), (jK 4, .inl (cI, 6, .inl (hks__11 4))), (jS 5, .inr (2, [.ref (jF 5), .ref (jC 5), .long (hpat__15 5), .long (hgoal__16 5)])), (jC 5, .inl (cI, 128, .inl (hcol__14 5))), (jF 5, .inr (0, [.ref (jK 5), .int (hmade__12 5), .int (hmac__13 5)])), (jK 5, .inl (cI, 6, .inl (hks__11 5)))]) hP hD [0, 1, 2, 3, 4, 9, 10, 11, 12, 13, 14, 15, 16, 17, 18, 19, 20, 21, 22, 23, 24, 25, 26, 27, 28, 29, 30, 31, 32, 33, 34] [5, 6, 7, 8, 35, 36, 37, 38, 39, 40, 41, 42, 43] rfl rfl (by decide) (by decide) hk1 hFc hP1 hD1
      have hP := hP.sub (ws' := (lwW cI cS aR naS naC naF naK saS saC saF saK aHi aHA jS jC jF jK taF taK aT aCH lf lh lu ld lt isSaved npat ngoal__9 ncol nmade nmac nks spat sgoal scol smade smac sks hkept__10 hks__11 hmade__12 hmac__13 hcol__14 hpat__15 hgoal__16 tmade tmac tks wlen wpos wlet wcol wrow wnum chs vf vh vu vd vt)) [13, 14, 15, 16, 17, 0, 1, 2, 3, 18, 19, 20, 21, 22, 23, 24, 25, 26, 27, 28, 29, 30, 31, 32, 33, 34, 35, 36, 37, 38, 39, 40, 41, 42, 43, 4, 5, 6, 7, 8, 9, 10, 11, 12] rfl
      have hD := hD.sub (ws' := (lwW cI cS aR naS naC naF naK saS saC saF saK aHi aHA jS jC jF jK taF taK aT aCH lf lh lu ld lt isSaved npat ngoal__9 ncol nmade nmac nks spat sgoal scol smade smac sks hkept__10 hks__11 hmade__12 hmac__13 hcol__14 hpat__15 hgoal__16 tmade tmac tks wlen wpos wlet wcol wrow wnum chs vf vh vu vd vt)) [13, 14, 15, 16, 17, 0, 1, 2, 3, 18, 19, 20, 21, 22, 23, 24, 25, 26, 27, 28, 29, 30, 31, 32, 33, 34, 35, 36, 37, 38, 39, 40, 41, 42, 43, 4, 5, 6, 7, 8, 9, 10, 11, 12] (by decide) rfl
      generalize H1 = H at hP hS ⊢
      refine lv_aload hx hb dL_law_871 (lv_at hl 7 rfl) ?_
      refine lv_iload hx hb dL_law_873 (lv_at hl 9 rfl) ?_
      have hin := hq.1
      have hq := hq.2
      refine va_iald hx hb hK hP 43 0 rfl rfl hin dL_law_875 ?_
      have hq := hq (fun (t_17 : Int32) => ∀ (H : Heap) (locs : List Loc) (ls : Array Slot) (jS jC jF jK : Nat → Nat), lwOK (dC, dI) A s (lwW cI cS aR naS naC naF naK saS saC saF saK aHi aHA jS jC jF jK taF taK aT aCH lf lh lu ld lt isSaved npat ngoal__9 ncol nmade nmac nks spat sgoal scol smade smac sks hkept__10 hks__11 hmade__12 hmac__13 hcol__14 hpat__15 hgoal__16 tmade tmac tks wlen wpos wlet wcol wrow wnum chs vf vh vu vd vt) H locs → lv_has ls 32 [(0, .ref b), (1, .ref aR), (2, .ref lf), (3, .ref lh), (4, .ref lu), (5, .ref ld), (6, .ref lt), (7, .int k7), (16, .int r_1), (17, .int w17_7)] → W p l e room_1 s m #[Value.ref b] below meth c H locs cn sn Q (F0 m 884 ls [.int t_17])) (by
        intro t_17 hq H locs ls jS jC jF jK hI hl
        obtain ⟨hP, hD, hS⟩ := hI
        refine lv_istore (lv' := [(15, .int t_17), (0, .ref b), (1, .ref aR), (2, .ref lf), (3, .ref lh), (4, .ref lu), (5, .ref ld), (6, .ref lt), (7, .int k7), (16, .int r_1), (17, .int w17_7)]) hx hb dL_law_884 hl (by decide) rfl (fun ls hl => ?_)
        refine lv_aload hx hb dL_law_886 (lv_at hl 7 rfl) ?_
        refine lv_iload hx hb dL_law_888 (lv_at hl 9 rfl) ?_
        refine lv_iload hx hb dL_law_890 (lv_at hl 10 rfl) ?_
        have hin := hq.1
        have hq := hq.2
        refine va_iast hx hb hK hP hD hS 43 0 rfl rfl hin dL_law_892 (fun H locs hP hD hS => ?_)
        have hP : va_P (dC, dI) vwCl (lwW cI cS aR naS naC naF naK saS saC saF saK aHi aHA jS jC jF jK taF taK aT aCH lf lh lu ld lt isSaved npat ngoal__9 ncol nmade nmac nks spat sgoal scol smade smac sks hkept__10 hks__11 hmade__12 hmac__13 hcol__14 hpat__15 hgoal__16 tmade tmac tks wlen wpos wlet wcol wrow wnum chs vf vh vu vd (upd vt (r_1).toNatClampNeg w17_7)) H := hP
        have hD : va_D A (lwW cI cS aR naS naC naF naK saS saC saF saK aHi aHA jS jC jF jK taF taK aT aCH lf lh lu ld lt isSaved npat ngoal__9 ncol nmade nmac nks spat sgoal scol smade smac sks hkept__10 hks__11 hmade__12 hmac__13 hcol__14 hpat__15 hgoal__16 tmade tmac tks wlen wpos wlet wcol wrow wnum chs vf vh vu vd (upd vt (r_1).toNatClampNeg w17_7)) := hD
        exact next893 t_17 ngoal__9 hkept__10 hks__11 hmade__12 hmac__13 hcol__14 hpat__15 hgoal__16 (upd vt (r_1).toNatClampNeg w17_7) jS jC jF jK _ _ _ ⟨hP, hD, hS⟩ (lv_sub hl [1, 2, 3, 4, 5, 6, 7, 8, 0] rfl) hq)
      refine lv_icmp_ne (tgt := 883) hx hb dL_law_876 (by decide) (fun hc => ?_) (fun hc => ?_)
      · have hq := hq.1 hc
        refine lv_iconst (v := 0) hx hb dL_law_883 (by decide) ?_
        exact hq _ _ _ _ _ _ _ ⟨hP, hD, hS⟩ (lv_sub hl [1, 2, 3, 4, 5, 6, 7, 8, 9, 0] rfl)
      · have hq := hq.2 hc
        refine lv_iconst (v := 1) hx hb dL_law_879 (by decide) ?_
        refine lv_goto (tgt := 884) hx hb dL_law_880 (by decide) ?_
        exact hq _ _ _ _ _ _ _ ⟨hP, hD, hS⟩ (lv_sub hl [1, 2, 3, 4, 5, 6, 7, 8, 9, 0] rfl))
    refine lv_if_ne (tgt := 854) hx hb dL_law_847 (by decide) (fun hc => ?_) (fun hc => ?_)
    · have hq := hq.1 hc
      refine lv_bipush (v := 85) hx hb dL_law_854 (by decide) ?_
      exact hq _ _ _ _ _ _ _ ⟨hP, hD, hS⟩ (lv_sub hl [0, 1, 2, 3, 4, 5, 6, 7, 9] rfl)
    · have hq := hq.2 hc
      refine lv_iconst (v := 1) hx hb dL_law_850 (by decide) ?_
      refine lv_goto (tgt := 856) hx hb dL_law_851 (by decide) ?_
      exact hq _ _ _ _ _ _ _ ⟨hP, hD, hS⟩ (lv_sub hl [0, 1, 2, 3, 4, 5, 6, 7, 9] rfl))
  refine lv_if_ne (tgt := 834) hx hb dL_law_825 (by decide) (fun hc => ?_) (fun hc => ?_)
  · have hq := hq.1 hc
    refine lv_iconst (v := 4) hx hb dL_law_834 (by decide) ?_
    exact hq _ _ _ _ _ _ _ ⟨hP, hD, hS⟩ (lv_sub hl [1, 2, 3, 4, 5, 6, 7, 8, 9, 0] rfl)
  · have hq := hq.2 hc
    refine lv_sipush (v := 256) hx hb dL_law_828 (by decide) ?_
    refine lv_goto (tgt := 835) hx hb dL_law_831 (by decide) ?_
    exact hq _ _ _ _ _ _ _ ⟨hP, hD, hS⟩ (lv_sub hl [1, 2, 3, 4, 5, 6, 7, 8, 9, 0] rfl)
