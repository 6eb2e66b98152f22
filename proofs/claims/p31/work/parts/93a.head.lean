def wp_sg_head (vf : Nat → Int32) (k7 : Int32) (post115 : Int32 → Int32 → Int32 → Int32 → Int32 → Int32 → Int32 → Int32 → Prop) : Prop :=
  0 ≤ k7 ∧ ∀ r_1 : Int32, wp_L_low r_1 (17 : Int32) (fun r_2 => vp_in (6 : Int32) 7 ∧ (wp_L_wide vf (vf ((6 : Int32)).toNatClampNeg) (fun r_3 => vp_in (6 : Int32) 7 ∧ (wp_L_high vf (vf ((6 : Int32)).toNatClampNeg) (fun r_4 => wp_L_layers vf (fun r_5 => wp_L_low (r_1 >>> ((5 : Int32) &&& (31 : Int32))) r_3 (fun r_6 => wp_L_low (r_1 >>> ((8 : Int32) &&& (31 : Int32))) r_4 (fun r_7 => post115 r_1 r_2 r_3 r_4 r_5 r_6 r_7 (1 : Int32)))))))))

set_option maxHeartbeats 8000000 in
set_option maxRecDepth 100000 in
theorem sg_head {p : Program} {l : Launch} {e : Env} {s : State} {m : MethodId} {below : List Frame} {meth : Method} {c : Code} {A : Nat → Prop} {dC : Nat → ClassId} {dI : Nat → Nat → Nat} {cI cC cS : ClassId} {b L : Nat} {xs : Nat → Int32} {Q : State → Prop} (hL : L ≤ 260) (C0 : lw_At p s m meth c b L xs) (hA : ∀ q : Nat, s.heap.size ≤ q → A q) (hbA : ¬ A b) (hN : gn_nw s) (hK : va_K (dC, dI) vwCl (gn_tys cI cC cS) s) (aR : Nat) (naS : Nat) (naC : Nat) (naF : Nat) (naK : Nat) (saS : Nat) (saC : Nat) (saF : Nat) (saK : Nat) (aHi : Nat) (aHA : Nat) (jS : Nat → Nat) (jC : Nat → Nat) (jF : Nat → Nat) (jK : Nat → Nat) (taF : Nat) (taK : Nat) (aT : Nat) (aCH : Nat) (lf : Nat) (lh : Nat) (lu : Nat) (ld : Nat) (lt : Nat) (isSaved : Int32) (npat : Int64) (ngoal : Int64) (ncol : Nat → Int32) (nmade : Int32) (nmac : Int32) (nks : Nat → Int32) (spat : Int64) (sgoal : Int64) (scol : Nat → Int32) (smade : Int32) (smac : Int32) (sks : Nat → Int32) (hkept : Int32) (hks : Nat → Nat → Int32) (hmade : Nat → Int32) (hmac : Nat → Int32) (hcol : Nat → Nat → Int32) (hpat : Nat → Int64) (hgoal : Nat → Int64) (tmade : Int32) (tmac : Int32) (tks : Nat → Int32) (wlen : Int32) (wpos : Int32) (wlet : Int32) (wcol : Int32) (wrow : Int32) (wnum : Int32) (chs : Nat → Int32) (vf : Nat → Int32) (vh : Nat → Int32) (vu : Nat → Int32) (vd : Nat → Int32) (vt : Nat → Int32) (k7 : Int32) (cn sn : Nat) (hcn : cn ≤ 500000) (hsn : sn ≤ 7000000) {post115 : Int32 → Int32 → Int32 → Int32 → Int32 → Int32 → Int32 → Int32 → Prop} (hq : wp_sg_head vf k7 post115) (H : Heap) (locs : List Loc) (hI : lwOK (dC, dI) A s (lwW cI cS aR naS naC naF naK saS saC saF saK aHi aHA jS jC jF jK taF taK aT aCH lf lh lu ld lt isSaved npat ngoal ncol nmade nmac nks spat sgoal scol smade smac sks hkept hks hmade hmac hcol hpat hgoal tmade tmac tks wlen wpos wlet wcol wrow wnum chs vf vh vu vd vt) H locs) (ls : Array Slot) (hl : lv_has ls 32 [(0, .ref b), (1, .ref aR), (2, .ref lf), (3, .ref lh), (4, .ref lu), (5, .ref ld), (6, .ref lt), (7, .int k7)]) (next115 : ∀ (k8' : Int32) (k9' : Int32) (k10' : Int32) (k11' : Int32) (k12' : Int32) (k13' : Int32) (k14' : Int32) (k15' : Int32) (H : Heap) (locs : List Loc) (ls : Array Slot), lwOK (dC, dI) A s (lwW cI cS aR naS naC naF naK saS saC saF saK aHi aHA jS jC jF jK taF taK aT aCH lf lh lu ld lt isSaved npat ngoal ncol nmade nmac nks spat sgoal scol smade smac sks hkept hks hmade hmac hcol hpat hgoal tmade tmac tks wlen wpos wlet wcol wrow wnum chs vf vh vu vd vt) H locs → lv_has ls 32 [(0, .ref b), (1, .ref aR), (2, .ref lf), (3, .ref lh), (4, .ref lu), (5, .ref ld), (6, .ref lt), (7, .int k7), (8, .int k8'), (9, .int k9'), (10, .int k10'), (11, .int k11'), (12, .int k12'), (13, .int k13'), (14, .int k14'), (15, .int k15')] → post115 k8' k9' k10' k11' k12' k13' k14' k15' → W p l e room_1 s m #[Value.ref b] below meth c H locs cn sn Q (F0 m 115 ls [])) : W p l e room_1 s m #[Value.ref b] below meth c H locs cn sn Q (F0 m 46 ls []) := by
  unfold wp_sg_head at hq
  obtain ⟨hP, hD, hS⟩ := hI
  obtain ⟨hx, hb, hr, hml, hown, htt, hX, hbl, hlocks, hgv⟩ := C0
  have hts : ∀ w ∈ wsL_law, w.before #[Value.ref b] s = true := fun w h => htt w (wsL_law_in w h)
  have hown : s.vm.findClass RL = some m.cls := hown
  refine lv_aload_n hx hb dL_law_46 rfl (lv_at hl 0 rfl) ?_
  refine lv_iload hx hb dL_law_47 (lv_at hl 7 rfl) ?_
  have hk0 := hq.1
  have hq := hq.2
  have hFc := va_free (wc := []) hD hS hA [] rfl
  refine va_calli (va_runS (As := [.ref b, .int k7]) (rest := []) ⟨hx, hb, hml, hown, hts⟩ (c_L_cell l b L xs hL _ k7 hk0) (va_cwS 2 hts gL_law_L_cell rfl rfl rfl (by decide +kernel) ⟨Nat.le_of_ble_eq_true rfl, Nat.le_of_ble_eq_true rfl⟩) (gl_preX hX hbl hbA hS) rfl rfl hl.1 rfl (lv_room (Nat.le_of_ble_eq_true rfl)) dL_law_49 ⟨show _ ≤ (600000 : Nat) by omega, show _ ≤ (7302250 : Nat) by omega⟩) hS (fun q _ h => hFc q h) hFc (fun r_1 u t H1 locs ht hvm hw hB hz1 hk1 hS => ?_)
  have hq := hq r_1
  have hP := gn_ro (wc := []) hP hD [] rfl hk1 (gl_nil H1)
  generalize H1 = H at hP hS ⊢
  refine lv_istore (lv' := [(8, .int r_1), (0, .ref b), (1, .ref aR), (2, .ref lf), (3, .ref lh), (4, .ref lu), (5, .ref ld), (6, .ref lt), (7, .int k7)]) hx hb dL_law_52 hl (by decide) rfl (fun ls hl => ?_)
  refine lv_iload hx hb dL_law_54 (lv_at hl 0 rfl) ?_
  refine lv_bipush (v := 17) hx hb dL_law_56 (by decide) ?_
  have hPc := hP.sub (ws' := []) [] rfl
  have hDc := hD.sub (ws' := []) [] (by decide) rfl
  have hFc := va_free (wc := []) hD hS hA [] rfl
  refine va_calli (va_runS (As := [.int r_1, .int (17 : Int32)]) (rest := []) ⟨hx, hb, hml, hown, hts⟩ (c_L_low l dC dI cI cC cS _ r_1 (17 : Int32) hq) (va_cwS 2 hts gL_law_L_low rfl rfl rfl (by decide +kernel) ⟨Nat.le_of_ble_eq_true rfl, Nat.le_of_ble_eq_true rfl⟩) (gn_preS hPc hK hN hDc) rfl rfl hl.1 rfl (lv_room (Nat.le_of_ble_eq_true rfl)) dL_law_58 ⟨show _ ≤ (600000 : Nat) by omega, show _ ≤ (7302250 : Nat) by omega⟩) hS (fun q _ h => hFc q h) hFc (fun r_2 u t H1 locs ht hvm hq hB hz1 hk1 hS => ?_)
  obtain ⟨hP1, hK1, hD1⟩ := hB
  rw [ht] at hP1
  try dsimp only at hq
  have hP := gn_ro (wc := []) hP hD [] rfl hk1 hP1
  generalize H1 = H at hP hS ⊢
  refine lv_istore (lv' := [(9, .int r_2), (8, .int r_1), (0, .ref b), (1, .ref aR), (2, .ref lf), (3, .ref lh), (4, .ref lu), (5, .ref ld), (6, .ref lt), (7, .int k7)]) hx hb dL_law_61 hl (by decide) rfl (fun ls hl => ?_)
  refine lv_aload_n hx hb dL_law_63 rfl (lv_at hl 4 rfl) ?_
  refine lv_aload_n hx hb dL_law_64 rfl (lv_at hl 4 rfl) ?_
  refine lv_bipush (v := 6) hx hb dL_law_65 (by decide) ?_
  have hin := hq.1
  have hq := hq.2
  refine va_iald hx hb hK hP 39 0 rfl rfl hin dL_law_67 ?_
  have hPc := hP.sub (ws' := [(lf, .inl (cI, 7, .inl vf))]) [39] rfl
  have hDc := hD.sub (ws' := [(lf, .inl (cI, 7, .inl vf))]) [39] (by decide) rfl
  have hFc := va_free (wc := [(lf, .inl (cI, 7, .inl vf))]) hD hS hA [39] rfl
  refine va_calli (va_runS (As := [.ref lf, .int (vf ((6 : Int32)).toNatClampNeg)]) (rest := []) ⟨hx, hb, hml, hown, hts⟩ (c_L_wide l dC dI cI cC cS lf _ vf (vf ((6 : Int32)).toNatClampNeg) hq) (va_cwS 2 hts gL_law_L_wide rfl rfl rfl (by decide +kernel) ⟨Nat.le_of_ble_eq_true rfl, Nat.le_of_ble_eq_true rfl⟩) (gn_preS hPc hK hN hDc) rfl rfl hl.1 rfl (lv_room (Nat.le_of_ble_eq_true rfl)) dL_law_68 ⟨show _ ≤ (600000 : Nat) by omega, show _ ≤ (7302250 : Nat) by omega⟩) hS (fun q _ h => hFc q h) hFc (fun r_3 u t H1 locs ht hvm hq hB hz1 hk1 hS => ?_)
  obtain ⟨hP1, hK1, hD1⟩ := hB
  rw [ht] at hP1
  try dsimp only at hq
  have hP := gn_ro (wc := [(lf, .inl (cI, 7, .inl vf))]) hP hD [39] rfl hk1 hP1
  generalize H1 = H at hP hS ⊢
  refine lv_istore (lv' := [(10, .int r_3), (9, .int r_2), (8, .int r_1), (0, .ref b), (1, .ref aR), (2, .ref lf), (3, .ref lh), (4, .ref lu), (5, .ref ld), (6, .ref lt), (7, .int k7)]) hx hb dL_law_71 hl (by decide) rfl (fun ls hl => ?_)
  refine lv_aload_n hx hb dL_law_73 rfl (lv_at hl 5 rfl) ?_
  refine lv_aload_n hx hb dL_law_74 rfl (lv_at hl 5 rfl) ?_
  refine lv_bipush (v := 6) hx hb dL_law_75 (by decide) ?_
  have hin := hq.1
  have hq := hq.2
  refine va_iald hx hb hK hP 39 0 rfl rfl hin dL_law_77 ?_
  have hPc := hP.sub (ws' := [(lf, .inl (cI, 7, .inl vf))]) [39] rfl
  have hDc := hD.sub (ws' := [(lf, .inl (cI, 7, .inl vf))]) [39] (by decide) rfl
  have hFc := va_free (wc := [(lf, .inl (cI, 7, .inl vf))]) hD hS hA [39] rfl
  refine va_calli (va_runS (As := [.ref lf, .int (vf ((6 : Int32)).toNatClampNeg)]) (rest := []) ⟨hx, hb, hml, hown, hts⟩ (c_L_high l dC dI cI cC cS lf _ vf (vf ((6 : Int32)).toNatClampNeg) hq) (va_cwS 2 hts gL_law_L_high rfl rfl rfl (by decide +kernel) ⟨Nat.le_of_ble_eq_true rfl, Nat.le_of_ble_eq_true rfl⟩) (gn_preS hPc hK hN hDc) rfl rfl hl.1 rfl (lv_room (Nat.le_of_ble_eq_true rfl)) dL_law_78 ⟨show _ ≤ (600000 : Nat) by omega, show _ ≤ (7302250 : Nat) by omega⟩) hS (fun q _ h => hFc q h) hFc (fun r_4 u t H1 locs ht hvm hq hB hz1 hk1 hS => ?_)
  obtain ⟨hP1, hK1, hD1⟩ := hB
  rw [ht] at hP1
  try dsimp only at hq
  have hP := gn_ro (wc := [(lf, .inl (cI, 7, .inl vf))]) hP hD [39] rfl hk1 hP1
  generalize H1 = H at hP hS ⊢
  refine lv_istore (lv' := [(11, .int r_4), (10, .int r_3), (9, .int r_2), (8, .int r_1), (0, .ref b), (1, .ref aR), (2, .ref lf), (3, .ref lh), (4, .ref lu), (5, .ref ld), (6, .ref lt), (7, .int k7)]) hx hb dL_law_81 hl (by decide) rfl (fun ls hl => ?_)
  refine lv_aload_n hx hb dL_law_83 rfl (lv_at hl 6 rfl) ?_
  have hPc := hP.sub (ws' := [(lf, .inl (cI, 7, .inl vf))]) [39] rfl
  have hDc := hD.sub (ws' := [(lf, .inl (cI, 7, .inl vf))]) [39] (by decide) rfl
  have hFc := va_free (wc := [(lf, .inl (cI, 7, .inl vf))]) hD hS hA [39] rfl
  refine va_calli (va_runS (As := [.ref lf]) (rest := []) ⟨hx, hb, hml, hown, hts⟩ (c_L_layers l dC dI cI cC cS lf _ vf hq) (va_cwS 1 hts gL_law_L_layers rfl rfl rfl (by decide +kernel) ⟨Nat.le_of_ble_eq_true rfl, Nat.le_of_ble_eq_true rfl⟩) (gn_preS hPc hK hN hDc) rfl rfl hl.1 rfl (lv_room (Nat.le_of_ble_eq_true rfl)) dL_law_84 ⟨show _ ≤ (600000 : Nat) by omega, show _ ≤ (7302250 : Nat) by omega⟩) hS (fun q _ h => hFc q h) hFc (fun r_5 u t H1 locs ht hvm hq hB hz1 hk1 hS => ?_)
  obtain ⟨hP1, hK1, hD1⟩ := hB
  rw [ht] at hP1
  try dsimp only at hq
  have hP := gn_ro (wc := [(lf, .inl (cI, 7, .inl vf))]) hP hD [39] rfl hk1 hP1
  generalize H1 = H at hP hS ⊢
  refine lv_istore (lv' := [(12, .int r_5), (11, .int r_4), (10, .int r_3), (9, .int r_2), (8, .int r_1), (0, .ref b), (1, .ref aR), (2, .ref lf), (3, .ref lh), (4, .ref lu), (5, .ref ld), (6, .ref lt), (7, .int k7)]) hx hb dL_law_87 hl (by decide) rfl (fun ls hl => ?_)
  refine lv_iload hx hb dL_law_89 (lv_at hl 4 rfl) ?_
  refine lv_iconst (v := 5) hx hb dL_law_91 (by decide) ?_
  refine lv_ishr hx hb dL_law_92 ?_
  refine lv_iload hx hb dL_law_93 (lv_at hl 2 rfl) ?_
  have hPc := hP.sub (ws' := []) [] rfl
  have hDc := hD.sub (ws' := []) [] (by decide) rfl
  have hFc := va_free (wc := []) hD hS hA [] rfl
  refine va_calli (va_runS (As := [.int (r_1 >>> ((5 : Int32) &&& (31 : Int32))), .int r_3]) (rest := []) ⟨hx, hb, hml, hown, hts⟩ (c_L_low l dC dI cI cC cS _ (r_1 >>> ((5 : Int32) &&& (31 : Int32))) r_3 hq) (va_cwS 2 hts gL_law_L_low rfl rfl rfl (by decide +kernel) ⟨Nat.le_of_ble_eq_true rfl, Nat.le_of_ble_eq_true rfl⟩) (gn_preS hPc hK hN hDc) rfl rfl hl.1 rfl (lv_room (Nat.le_of_ble_eq_true rfl)) dL_law_95 ⟨show _ ≤ (600000 : Nat) by omega, show _ ≤ (7302250 : Nat) by omega⟩) hS (fun q _ h => hFc q h) hFc (fun r_6 u t H1 locs ht hvm hq hB hz1 hk1 hS => ?_)
  obtain ⟨hP1, hK1, hD1⟩ := hB
  rw [ht] at hP1
  try dsimp only at hq
  have hP := gn_ro (wc := []) hP hD [] rfl hk1 hP1
  generalize H1 = H at hP hS ⊢
  refine lv_istore (lv' := [(13, .int r_6), (12, .int r_5), (11, .int r_4), (10, .int r_3), (9, .int r_2), (8, .int r_1), (0, .ref b), (1, .ref aR), (2, .ref lf), (3, .ref lh), (4, .ref lu), (5, .ref ld), (6, .ref lt), (7, .int k7)]) hx hb dL_law_98 hl (by decide) rfl (fun ls hl => ?_)
  refine lv_iload hx hb dL_law_100 (lv_at hl 5 rfl) ?_
  refine lv_bipush (v := 8) hx hb dL_law_102 (by decide) ?_
  refine lv_ishr hx hb dL_law_104 ?_
  refine lv_iload hx hb dL_law_105 (lv_at hl 2 rfl) ?_
  have hPc := hP.sub (ws' := []) [] rfl
  have hDc := hD.sub (ws' := []) [] (by decide) rfl
  have hFc := va_free (wc := []) hD hS hA [] rfl
  refine va_calli (va_runS (As := [.int (r_1 >>> ((8 : Int32) &&& (31 : Int32))), .int r_4]) (rest := []) ⟨hx, hb, hml, hown, hts⟩ (c_L_low l dC dI cI cC cS _ (r_1 >>> ((8 : Int32) &&& (31 : Int32))) r_4 hq) (va_cwS 2 hts gL_law_L_low rfl rfl rfl (by decide +kernel) ⟨Nat.le_of_ble_eq_true rfl, Nat.le_of_ble_eq_true rfl⟩) (gn_preS hPc hK hN hDc) rfl rfl hl.1 rfl (lv_room (Nat.le_of_ble_eq_true rfl)) dL_law_107 ⟨show _ ≤ (600000 : Nat) by omega, show _ ≤ (7302250 : Nat) by omega⟩) hS (fun q _ h => hFc q h) hFc (fun r_7 u t H1 locs ht hvm hq hB hz1 hk1 hS => ?_)
  obtain ⟨hP1, hK1, hD1⟩ := hB
  rw [ht] at hP1
  try dsimp only at hq
  have hP := gn_ro (wc := []) hP hD [] rfl hk1 hP1
  generalize H1 = H at hP hS ⊢
  refine lv_istore (lv' := [(14, .int r_7), (13, .int r_6), (12, .int r_5), (11, .int r_4), (10, .int r_3), (9, .int r_2), (8, .int r_1), (0, .ref b), (1, .ref aR), (2, .ref lf), (3, .ref lh), (4, .ref lu), (5, .ref ld), (6, .ref lt), (7, .int k7)]) hx hb dL_law_110 hl (by decide) rfl (fun ls hl => ?_)
  refine lv_iconst (v := 1) hx hb dL_law_112 (by decide) ?_
  refine lv_istore (lv' := [(15, .int (1 : Int32)), (14, .int r_7), (13, .int r_6), (12, .int r_5), (11, .int r_4), (10, .int r_3), (9, .int r_2), (8, .int r_1), (0, .ref b), (1, .ref aR), (2, .ref lf), (3, .ref lh), (4, .ref lu), (5, .ref ld), (6, .ref lt), (7, .int k7)]) hx hb dL_law_113 hl (by decide) rfl (fun ls hl => ?_)
  exact next115 r_1 r_2 r_3 r_4 r_5 r_6 r_7 (1 : Int32) _ _ _ ⟨hP, hD, hS⟩ (lv_sub hl [8, 9, 10, 11, 12, 13, 14, 15, 7, 6, 5, 4, 3, 2, 1, 0] rfl) hq
