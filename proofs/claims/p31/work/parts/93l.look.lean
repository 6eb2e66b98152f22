def wp_sg_look (vf : Nat → Int32) (vh : Nat → Int32) (vu : Nat → Int32) (vd : Nat → Int32) (k7 : Int32) (post1087 : Int32 → Int32 → Int32 → (Nat → Int32) → Prop) : Prop :=
  0 ≤ ((40 : Int32) + k7) ∧ ∀ r_1 : Int32, vp_in (6 : Int32) 7 ∧ (wp_L_wide vf (vf ((6 : Int32)).toNatClampNeg) (fun r_2 => wp_L_low r_1 r_2 (fun r_3 => vp_in (6 : Int32) 7 ∧ (wp_L_high vf (vf ((6 : Int32)).toNatClampNeg) (fun r_4 => wp_L_low (r_1 >>> ((3 : Int32) &&& (31 : Int32))) r_4 (fun r_5 => wp_L_firstWhole vf vh r_3 r_5 (fun r_6 => ∀ (P982 : Int32 → (Nat → Int32) → Prop), (∀ (v22_7 : Int32) (vp__8 : Nat → Int32), ((((64 : Int32) ≤ v22_7) → wp_L_layers vf (fun r_9 => ((r_9 ≤ r_6) → post1087 r_3 r_5 (-6 : Int32) vp__8) ∧ ((¬ r_9 ≤ r_6) → wp_L_at vf r_3 r_5 r_6 (fun r_10 => wp_L_where vf r_10 (fun r_11 => ∀ (P1084 : Int32 → Prop), (∀ (t_12 : Int32), (∀ w20_13 : Int32, w20_13 = (((10 : Int32) * r_10) + t_12) → post1087 r_3 r_5 w20_13 vp__8) → P1084 t_12) → ((r_11 ≤ (4095 : Int32)) → vp_in r_10 64 ∧ (P1084 (vu (r_10).toNatClampNeg))) ∧ ((¬ r_11 ≤ (4095 : Int32)) → vp_in r_10 64 ∧ (P1084 (vd (r_10).toNatClampNeg)))))))) ∧ ((¬ (64 : Int32) ≤ v22_7) → vp_in v22_7 64 ∧ (∀ (P1026 : Int32 → Prop), (∀ (t_14 : Int32), (vp_in v22_7 64 ∧ (P982 (v22_7 + (1 : Int32)) (upd vp__8 (v22_7).toNatClampNeg t_14))) → P1026 t_14) → ∀ (P1021 : Prop), ((P1026 (1 : Int32)) → P1021 ) → (((vh (v22_7).toNatClampNeg) = (1 : Int32)) → P1021) ∧ ((¬ (vh (v22_7).toNatClampNeg) = (1 : Int32)) → wp_L_where vf v22_7 (fun r_15 => ((¬ (r_15 - r_15 / (64 : Int32) * (64 : Int32)) = (r_3 + ((8 : Int32) * r_5))) → P1026 (0 : Int32)) ∧ (((r_15 - r_15 / (64 : Int32) * (64 : Int32)) = (r_3 + ((8 : Int32) * r_5))) → P1021)))))) → P982 v22_7 vp__8) → P982 (0 : Int32) (fun _ => 0))))))))
set_option maxRecDepth 20000 in
theorem kwL_law_arrint : Cond.arrayClass .int ∈ wsL_law := by decide +kernel
set_option maxHeartbeats 8000000 in
set_option maxRecDepth 100000 in
theorem sg_look {p : Program} {l : Launch} {e : Env} {s : State} {m : MethodId} {below : List Frame} {meth : Method} {c : Code} {A : Nat → Prop} {dC : Nat → ClassId} {dI : Nat → Nat → Nat} {cI cC cS : ClassId} {b L : Nat} {xs : Nat → Int32} {Q : State → Prop} (hL : L ≤ 260) (C0 : lw_At p s m meth c b L xs) (hA : ∀ q : Nat, s.heap.size ≤ q → A q) (hbA : ¬ A b) (hN : gn_nw s) (hK : va_K (dC, dI) vwCl (gn_tys cI cC cS) s) (aR : Nat) (naS : Nat) (naC : Nat) (naF : Nat) (naK : Nat) (saS : Nat) (saC : Nat) (saF : Nat) (saK : Nat) (aHi : Nat) (aHA : Nat) (jS : Nat → Nat) (jC : Nat → Nat) (jF : Nat → Nat) (jK : Nat → Nat) (taF : Nat) (taK : Nat) (aT : Nat) (aCH : Nat) (lf : Nat) (lh : Nat) (lu : Nat) (ld : Nat) (lt : Nat) (isSaved : Int32) (npat : Int64) (ngoal : Int64) (ncol : Nat → Int32) (nmade : Int32) (nmac : Int32) (nks : Nat → Int32) (spat : Int64) (sgoal : Int64) (scol : Nat → Int32) (smade : Int32) (smac : Int32) (sks : Nat → Int32) (hkept : Int32) (hks : Nat → Nat → Int32) (hmade : Nat → Int32) (hmac : Nat → Int32) (hcol : Nat → Nat → Int32) (hpat : Nat → Int64) (hgoal : Nat → Int64) (tmade : Int32) (tmac : Int32) (tks : Nat → Int32) (wlen : Int32) (wpos : Int32) (wlet : Int32) (wcol : Int32) (wrow : Int32) (wnum : Int32) (chs : Nat → Int32) (vf : Nat → Int32) (vh : Nat → Int32) (vu : Nat → Int32) (vd : Nat → Int32) (vt : Nat → Int32) (k7 : Int32) (cn sn : Nat) (hcn : cn ≤ 500000) (hsn : sn ≤ 7000000) {post1087 : Int32 → Int32 → Int32 → (Nat → Int32) → Prop} (hq : wp_sg_look vf vh vu vd k7 post1087) (H : Heap) (locs : List Loc) (hI : lwOK (dC, dI) A s (lwW cI cS aR naS naC naF naK saS saC saF saK aHi aHA jS jC jF jK taF taK aT aCH lf lh lu ld lt isSaved npat ngoal ncol nmade nmac nks spat sgoal scol smade smac sks hkept hks hmade hmac hcol hpat hgoal tmade tmac tks wlen wpos wlet wcol wrow wnum chs vf vh vu vd vt) H locs) (ls : Array Slot) (hl : lv_has ls 32 [(0, .ref b), (1, .ref aR), (2, .ref lf), (3, .ref lh), (4, .ref lu), (5, .ref ld), (6, .ref lt), (7, .int k7)]) (next1087 : ∀ (k17' : Int32) (k18' : Int32) (k20' : Int32) (m_vp : Nat → Int32) (lp : Nat) (H : Heap) (locs : List Loc) (ls : Array Slot), lwOK (dC, dI) A s (lwWp cI cS aR naS naC naF naK saS saC saF saK aHi aHA jS jC jF jK taF taK aT aCH lf lh lu ld lt lp isSaved npat ngoal ncol nmade nmac nks spat sgoal scol smade smac sks hkept hks hmade hmac hcol hpat hgoal tmade tmac tks wlen wpos wlet wcol wrow wnum chs vf vh vu vd vt m_vp) H locs → lv_has ls 32 [(0, .ref b), (1, .ref aR), (2, .ref lf), (3, .ref lh), (4, .ref lu), (5, .ref ld), (6, .ref lt), (7, .int k7), (17, .int k17'), (18, .int k18'), (20, .int k20'), (21, .ref lp)] → post1087 k17' k18' k20' m_vp → W p l e room_1 s m #[Value.ref b] below meth c H locs (cn + 1) (sn + 64) Q (F0 m 1087 ls [])) : W p l e room_1 s m #[Value.ref b] below meth c H locs cn sn Q (F0 m 915 ls []) := by
  unfold wp_sg_look at hq
  obtain ⟨hP, hD, hS⟩ := hI
  obtain ⟨hx, hb, hr, hml, hown, htt, hX, hbl, hlocks, hgv⟩ := C0
  have hts : ∀ w ∈ wsL_law, w.before #[Value.ref b] s = true := fun w h => htt w (wsL_law_in w h)
  have hown : s.vm.findClass RL = some m.cls := hown
  refine lv_aload_n hx hb dL_law_915 rfl (lv_at hl 0 rfl) ?_
  refine lv_bipush (v := 40) hx hb dL_law_916 (by decide) ?_
  refine lv_iload hx hb dL_law_918 (lv_at hl 7 rfl) ?_
  refine lv_iadd hx hb dL_law_920 ?_
  have hk0 := hq.1
  have hq := hq.2
  have hFc := va_free (wc := []) hD hS hA [] rfl
  refine va_calli (va_runS (As := [.ref b, .int ((40 : Int32) + k7)]) (rest := []) ⟨hx, hb, hml, hown, hts⟩ (c_L_cell l b L xs hL _ ((40 : Int32) + k7) hk0) (va_cwS 2 hts gL_law_L_cell rfl rfl rfl (by decide +kernel) ⟨Nat.le_of_ble_eq_true rfl, Nat.le_of_ble_eq_true rfl⟩) (gl_preX hX hbl hbA hS) rfl rfl hl.1 rfl (lv_room (Nat.le_of_ble_eq_true rfl)) dL_law_921 ⟨show _ ≤ (600000 : Nat) by omega, show _ ≤ (7302250 : Nat) by omega⟩) hS (fun q _ h => hFc q h) hFc (fun r_1 u t H1 locs ht hvm hw hB hz1 hk1 hS => ?_)
  have hq := hq r_1
  have hP := gn_ro (wc := []) hP hD [] rfl hk1 (gl_nil H1)
  generalize H1 = H at hP hS ⊢
  refine lv_istore (lv' := [(16, .int r_1), (0, .ref b), (1, .ref aR), (2, .ref lf), (3, .ref lh), (4, .ref lu), (5, .ref ld), (6, .ref lt), (7, .int k7)]) hx hb dL_law_924 hl (by decide) rfl (fun ls hl => ?_)
  refine lv_iload hx hb dL_law_926 (lv_at hl 0 rfl) ?_
  refine lv_aload_n hx hb dL_law_928 rfl (lv_at hl 3 rfl) ?_
  refine lv_aload_n hx hb dL_law_929 rfl (lv_at hl 3 rfl) ?_
  refine lv_bipush (v := 6) hx hb dL_law_930 (by decide) ?_
  have hin := hq.1
  have hq := hq.2
  refine va_iald hx hb hK hP 39 0 rfl rfl hin dL_law_932 ?_
  have hPc := hP.sub (ws' := [(lf, .inl (cI, 7, .inl vf))]) [39] rfl
  have hDc := hD.sub (ws' := [(lf, .inl (cI, 7, .inl vf))]) [39] (by decide) rfl
  have hFc := va_free (wc := [(lf, .inl (cI, 7, .inl vf))]) hD hS hA [39] rfl
  refine va_calli (va_runS (As := [.ref lf, .int (vf ((6 : Int32)).toNatClampNeg)]) (rest := [.int r_1]) ⟨hx, hb, hml, hown, hts⟩ (c_L_wide l dC dI cI cC cS lf _ vf (vf ((6 : Int32)).toNatClampNeg) hq) (va_cwS 2 hts gL_law_L_wide rfl rfl rfl (by decide +kernel) ⟨Nat.le_of_ble_eq_true rfl, Nat.le_of_ble_eq_true rfl⟩) (gn_preS hPc hK hN hDc) rfl rfl hl.1 rfl (lv_room (Nat.le_of_ble_eq_true rfl)) dL_law_933 ⟨show _ ≤ (600000 : Nat) by omega, show _ ≤ (7302250 : Nat) by omega⟩) hS (fun q _ h => hFc q h) hFc (fun r_2 u t H1 locs ht hvm hq hB hz1 hk1 hS => ?_)
  obtain ⟨hP1, hK1, hD1⟩ := hB
  rw [ht] at hP1
  try dsimp only at hq
  have hP := gn_ro (wc := [(lf, .inl (cI, 7, .inl vf))]) hP hD [39] rfl hk1 hP1
  generalize H1 = H at hP hS ⊢
  have hPc := hP.sub (ws' := []) [] rfl
  have hDc := hD.sub (ws' := []) [] (by decide) rfl
  have hFc := va_free (wc := []) hD hS hA [] rfl
  refine va_calli (va_runS (As := [.int r_1, .int r_2]) (rest := []) ⟨hx, hb, hml, hown, hts⟩ (c_L_low l dC dI cI cC cS _ r_1 r_2 hq) (va_cwS 2 hts gL_law_L_low rfl rfl rfl (by decide +kernel) ⟨Nat.le_of_ble_eq_true rfl, Nat.le_of_ble_eq_true rfl⟩) (gn_preS hPc hK hN hDc) rfl rfl hl.1 rfl (lv_room (Nat.le_of_ble_eq_true rfl)) dL_law_936 ⟨show _ ≤ (600000 : Nat) by omega, show _ ≤ (7302250 : Nat) by omega⟩) hS (fun q _ h => hFc q h) hFc (fun r_3 u t H1 locs ht hvm hq hB hz1 hk1 hS => ?_)
  obtain ⟨hP1, hK1, hD1⟩ := hB
  rw [ht] at hP1
  try dsimp only at hq
  have hP := gn_ro (wc := []) hP hD [] rfl hk1 hP1
  generalize H1 = H at hP hS ⊢
  refine lv_istore (lv' := [(17, .int r_3), (16, .int r_1), (0, .ref b), (1, .ref aR), (2, .ref lf), (3, .ref lh), (4, .ref lu), (5, .ref ld), (6, .ref lt), (7, .int k7)]) hx hb dL_law_939 hl (by decide) rfl (fun ls hl => ?_)
  refine lv_iload hx hb dL_law_941 (lv_at hl 1 rfl) ?_
  refine lv_iconst (v := 3) hx hb dL_law_943 (by decide) ?_
  refine lv_ishr hx hb dL_law_944 ?_
  refine lv_aload_n hx hb dL_law_945 rfl (lv_at hl 4 rfl) ?_
  refine lv_aload_n hx hb dL_law_946 rfl (lv_at hl 4 rfl) ?_
  refine lv_bipush (v := 6) hx hb dL_law_947 (by decide) ?_
  have hin := hq.1
  have hq := hq.2
  refine va_iald hx hb hK hP 39 0 rfl rfl hin dL_law_949 ?_
  have hPc := hP.sub (ws' := [(lf, .inl (cI, 7, .inl vf))]) [39] rfl
  have hDc := hD.sub (ws' := [(lf, .inl (cI, 7, .inl vf))]) [39] (by decide) rfl
  have hFc := va_free (wc := [(lf, .inl (cI, 7, .inl vf))]) hD hS hA [39] rfl
  refine va_calli (va_runS (As := [.ref lf, .int (vf ((6 : Int32)).toNatClampNeg)]) (rest := [.int (r_1 >>> ((3 : Int32) &&& (31 : Int32)))]) ⟨hx, hb, hml, hown, hts⟩ (c_L_high l dC dI cI cC cS lf _ vf (vf ((6 : Int32)).toNatClampNeg) hq) (va_cwS 2 hts gL_law_L_high rfl rfl rfl (by decide +kernel) ⟨Nat.le_of_ble_eq_true rfl, Nat.le_of_ble_eq_true rfl⟩) (gn_preS hPc hK hN hDc) rfl rfl hl.1 rfl (lv_room (Nat.le_of_ble_eq_true rfl)) dL_law_950 ⟨show _ ≤ (600000 : Nat) by omega, show _ ≤ (7302250 : Nat) by omega⟩) hS (fun q _ h => hFc q h) hFc (fun r_4 u t H1 locs ht hvm hq hB hz1 hk1 hS => ?_)
  obtain ⟨hP1, hK1, hD1⟩ := hB
  rw [ht] at hP1
  try dsimp only at hq
  have hP := gn_ro (wc := [(lf, .inl (cI, 7, .inl vf))]) hP hD [39] rfl hk1 hP1
  generalize H1 = H at hP hS ⊢
  have hPc := hP.sub (ws' := []) [] rfl
  have hDc := hD.sub (ws' := []) [] (by decide) rfl
  have hFc := va_free (wc := []) hD hS hA [] rfl
  refine va_calli (va_runS (As := [.int (r_1 >>> ((3 : Int32) &&& (31 : Int32))), .int r_4]) (rest := []) ⟨hx, hb, hml, hown, hts⟩ (c_L_low l dC dI cI cC cS _ (r_1 >>> ((3 : Int32) &&& (31 : Int32))) r_4 hq) (va_cwS 2 hts gL_law_L_low rfl rfl rfl (by decide +kernel) ⟨Nat.le_of_ble_eq_true rfl, Nat.le_of_ble_eq_true rfl⟩) (gn_preS hPc hK hN hDc) rfl rfl hl.1 rfl (lv_room (Nat.le_of_ble_eq_true rfl)) dL_law_953 ⟨show _ ≤ (600000 : Nat) by omega, show _ ≤ (7302250 : Nat) by omega⟩) hS (fun q _ h => hFc q h) hFc (fun r_5 u t H1 locs ht hvm hq hB hz1 hk1 hS => ?_)
  obtain ⟨hP1, hK1, hD1⟩ := hB
  rw [ht] at hP1
  try dsimp only at hq
  have hP := gn_ro (wc := []) hP hD [] rfl hk1 hP1
  generalize H1 = H at hP hS ⊢
  refine lv_istore (lv' := [(18, .int r_5), (17, .int r_3), (16, .int r_1), (0, .ref b), (1, .ref aR), (2, .ref lf), (3, .ref lh), (4, .ref lu), (5, .ref ld), (6, .ref lt), (7, .int k7)]) hx hb dL_law_956 hl (by decide) rfl (fun ls hl => ?_)
  refine lv_aload_n hx hb dL_law_958 rfl (lv_at hl 5 rfl) ?_
  refine lv_aload_n hx hb dL_law_959 rfl (lv_at hl 6 rfl) ?_
  refine lv_iload hx hb dL_law_960 (lv_at hl 1 rfl) ?_
  refine lv_iload hx hb dL_law_962 (lv_at hl 0 rfl) ?_
  have hPc := hP.sub (ws' := [(lf, .inl (cI, 7, .inl vf)), (lh, .inl (cI, 64, .inl vh))]) [39, 40] rfl
  have hDc := hD.sub (ws' := [(lf, .inl (cI, 7, .inl vf)), (lh, .inl (cI, 64, .inl vh))]) [39, 40] (by decide) rfl
  have hFc := va_free (wc := [(lf, .inl (cI, 7, .inl vf)), (lh, .inl (cI, 64, .inl vh))]) hD hS hA [39, 40] rfl
  refine va_calli (va_runS (As := [.ref lf, .ref lh, .int r_3, .int r_5]) (rest := []) ⟨hx, hb, hml, hown, hts⟩ (c_L_firstWhole l dC dI cI cC cS lf lh _ vf vh r_3 r_5 hq) (va_cwS 4 hts gL_law_L_firstWhole rfl rfl rfl (by decide +kernel) ⟨Nat.le_of_ble_eq_true rfl, Nat.le_of_ble_eq_true rfl⟩) (gn_preS hPc hK hN hDc) rfl rfl hl.1 rfl (lv_room (Nat.le_of_ble_eq_true rfl)) dL_law_964 ⟨show _ ≤ (600000 : Nat) by omega, show _ ≤ (7302250 : Nat) by omega⟩) hS (fun q _ h => hFc q h) hFc (fun r_6 u t H1 locs ht hvm hq hB hz1 hk1 hS => ?_)
  obtain ⟨hP1, hK1, hD1⟩ := hB
  rw [ht] at hP1
  try dsimp only at hq
  have hP := gn_ro (wc := [(lf, .inl (cI, 7, .inl vf)), (lh, .inl (cI, 64, .inl vh))]) hP hD [39, 40] rfl hk1 hP1
  generalize H1 = H at hP hS ⊢
  refine lv_istore (lv' := [(19, .int r_6), (18, .int r_5), (17, .int r_3), (16, .int r_1), (0, .ref b), (1, .ref aR), (2, .ref lf), (3, .ref lh), (4, .ref lu), (5, .ref ld), (6, .ref lt), (7, .int k7)]) hx hb dL_law_967 hl (by decide) rfl (fun ls hl => ?_)
  refine lv_bipush (v := -6) hx hb dL_law_969 (by decide) ?_
  refine lv_istore (lv' := [(20, .int (-6 : Int32)), (19, .int r_6), (18, .int r_5), (17, .int r_3), (16, .int r_1), (0, .ref b), (1, .ref aR), (2, .ref lf), (3, .ref lh), (4, .ref lu), (5, .ref ld), (6, .ref lt), (7, .int k7)]) hx hb dL_law_971 hl (by decide) rfl (fun ls hl => ?_)
  refine lv_bipush (v := 64) hx hb dL_law_973 (by decide) ?_
  refine gn_newI hx hb (hts _ kwL_law_arrint) hK hP hD hS hA (N' := 64) (by decide) (by decide) (Nat.le_of_ble_eq_true rfl) (show _ ≤ (600000 : Nat) by omega) (show _ ≤ (7302250 : Nat) by omega) dL_law_975 (fun lp H hP hD hS => ?_)
  have hP : va_P (dC, dI) vwCl (lwWp cI cS aR naS naC naF naK saS saC saF saK aHi aHA jS jC jF jK taF taK aT aCH lf lh lu ld lt lp isSaved npat ngoal ncol nmade nmac nks spat sgoal scol smade smac sks hkept hks hmade hmac hcol hpat hgoal tmade tmac tks wlen wpos wlet wcol wrow wnum chs vf vh vu vd vt (fun _ => 0)) H := hP
  have hD : va_D A (lwWp cI cS aR naS naC naF naK saS saC saF saK aHi aHA jS jC jF jK taF taK aT aCH lf lh lu ld lt lp isSaved npat ngoal ncol nmade nmac nks spat sgoal scol smade smac sks hkept hks hmade hmac hcol hpat hgoal tmade tmac tks wlen wpos wlet wcol wrow wnum chs vf vh vu vd vt (fun _ => 0)) := hD
  refine W.widen (k := (cn + 1)) (n := (sn + 64)) (by omega) (by omega) ?_
  refine lv_astore (lv' := [(21, .ref lp), (20, .int (-6 : Int32)), (19, .int r_6), (18, .int r_5), (17, .int r_3), (16, .int r_1), (0, .ref b), (1, .ref aR), (2, .ref lf), (3, .ref lh), (4, .ref lu), (5, .ref ld), (6, .ref lt), (7, .int k7)]) hx hb dL_law_977 hl (by decide) rfl (fun ls hl => ?_)
  refine lv_iconst (v := 0) hx hb dL_law_979 (by decide) ?_
  refine lv_istore (lv' := [(22, .int (0 : Int32)), (21, .ref lp), (20, .int (-6 : Int32)), (19, .int r_6), (18, .int r_5), (17, .int r_3), (16, .int r_1), (0, .ref b), (1, .ref aR), (2, .ref lf), (3, .ref lh), (4, .ref lu), (5, .ref ld), (6, .ref lt), (7, .int k7)]) hx hb dL_law_980 hl (by decide) rfl (fun ls hl => ?_)
  have hq := hq (fun (v22_7 : Int32) (vp__8 : Nat → Int32) => ∀ (H : Heap) (locs : List Loc) (ls : Array Slot), lwOK (dC, dI) A s (lwWp cI cS aR naS naC naF naK saS saC saF saK aHi aHA jS jC jF jK taF taK aT aCH lf lh lu ld lt lp isSaved npat ngoal ncol nmade nmac nks spat sgoal scol smade smac sks hkept hks hmade hmac hcol hpat hgoal tmade tmac tks wlen wpos wlet wcol wrow wnum chs vf vh vu vd vt vp__8) H locs → lv_has ls 32 [(0, .ref b), (1, .ref aR), (2, .ref lf), (3, .ref lh), (4, .ref lu), (5, .ref ld), (6, .ref lt), (7, .int k7), (17, .int r_3), (18, .int r_5), (19, .int r_6), (20, .int (-6 : Int32)), (21, .ref lp), (22, .int v22_7)] → W p l e room_1 s m #[Value.ref b] below meth c H locs (cn + 1) (sn + 64) Q (F0 m 982 ls [])) (by
    intro v22_7 vp__8 hq H locs ls hI hl
    obtain ⟨hP, hD, hS⟩ := hI
    refine lv_iload hx hb dL_law_982 (lv_at hl 13 rfl) ?_
    refine lv_bipush (v := 64) hx hb dL_law_984 (by decide) ?_
    refine lv_icmp_ge (tgt := 1033) hx hb dL_law_986 (by decide) (fun hc => ?_) (fun hc => ?_)
    · have hq := hq.1 hc
      refine lv_iload hx hb dL_law_1033 (lv_at hl 10 rfl) ?_
      refine lv_aload_n hx hb dL_law_1035 rfl (lv_at hl 2 rfl) ?_
      have hPc := hP.sub (ws' := [(lf, .inl (cI, 7, .inl vf))]) [39] rfl
      have hDc := hD.sub (ws' := [(lf, .inl (cI, 7, .inl vf))]) [39] (by decide) rfl
      have hFc := va_free (wc := [(lf, .inl (cI, 7, .inl vf))]) hD hS hA [39] rfl
      refine va_calli (va_runS (As := [.ref lf]) (rest := [.int r_6]) ⟨hx, hb, hml, hown, hts⟩ (c_L_layers l dC dI cI cC cS lf _ vf hq) (va_cwS 1 hts gL_law_L_layers rfl rfl rfl (by decide +kernel) ⟨Nat.le_of_ble_eq_true rfl, Nat.le_of_ble_eq_true rfl⟩) (gn_preS hPc hK hN hDc) rfl rfl hl.1 rfl (lv_room (Nat.le_of_ble_eq_true rfl)) dL_law_1036 ⟨show _ ≤ (600000 : Nat) by omega, show _ ≤ (7302250 : Nat) by omega⟩) hS (fun q _ h => hFc q h) hFc (fun r_9 u t H1 locs ht hvm hq hB hz1 hk1 hS => ?_)
      obtain ⟨hP1, hK1, hD1⟩ := hB
      rw [ht] at hP1
      try dsimp only at hq
      have hP := gn_ro (wc := [(lf, .inl (cI, 7, .inl vf))]) hP hD [39] rfl hk1 hP1
      generalize H1 = H at hP hS ⊢
      refine lv_icmp_ge (tgt := 1087) hx hb dL_law_1039 (by decide) (fun hc => ?_) (fun hc => ?_)
      · have hq := hq.1 hc
        exact next1087 r_3 r_5 (-6 : Int32) vp__8 lp _ _ _ ⟨hP, hD, hS⟩ (lv_sub hl [0, 1, 2, 3, 4, 5, 6, 7, 8, 9, 11, 12] rfl) hq
      · have hq := hq.2 hc
        refine lv_aload_n hx hb dL_law_1042 rfl (lv_at hl 2 rfl) ?_
        refine lv_iload hx hb dL_law_1043 (lv_at hl 8 rfl) ?_
        refine lv_iload hx hb dL_law_1045 (lv_at hl 9 rfl) ?_
        refine lv_iload hx hb dL_law_1047 (lv_at hl 10 rfl) ?_
        have hPc := hP.sub (ws' := [(lf, .inl (cI, 7, .inl vf))]) [39] rfl
        have hDc := hD.sub (ws' := [(lf, .inl (cI, 7, .inl vf))]) [39] (by decide) rfl
        have hFc := va_free (wc := [(lf, .inl (cI, 7, .inl vf))]) hD hS hA [39] rfl
        refine va_calli (va_runS (As := [.ref lf, .int r_3, .int r_5, .int r_6]) (rest := []) ⟨hx, hb, hml, hown, hts⟩ (c_L_at l dC dI cI cC cS lf _ vf r_3 r_5 r_6 hq) (va_cwS 4 hts gL_law_L_at rfl rfl rfl (by decide +kernel) ⟨Nat.le_of_ble_eq_true rfl, Nat.le_of_ble_eq_true rfl⟩) (gn_preS hPc hK hN hDc) rfl rfl hl.1 rfl (lv_room (Nat.le_of_ble_eq_true rfl)) dL_law_1049 ⟨show _ ≤ (600000 : Nat) by omega, show _ ≤ (7302250 : Nat) by omega⟩) hS (fun q _ h => hFc q h) hFc (fun r_10 u t H1 locs ht hvm hq hB hz1 hk1 hS => ?_)
        obtain ⟨hP1, hK1, hD1⟩ := hB
        rw [ht] at hP1
        try dsimp only at hq
        have hP := gn_ro (wc := [(lf, .inl (cI, 7, .inl vf))]) hP hD [39] rfl hk1 hP1
        generalize H1 = H at hP hS ⊢
        refine lv_istore (lv' := [(22, .int r_10), (0, .ref b), (1, .ref aR), (2, .ref lf), (3, .ref lh), (4, .ref lu), (5, .ref ld), (6, .ref lt), (7, .int k7), (17, .int r_3), (18, .int r_5), (19, .int r_6), (20, .int (-6 : Int32)), (21, .ref lp)]) hx hb dL_law_1052 hl (by decide) rfl (fun ls hl => ?_)
        refine lv_bipush (v := 10) hx hb dL_law_1054 (by decide) ?_
        refine lv_iload hx hb dL_law_1056 (lv_at hl 0 rfl) ?_
        refine lv_imul hx hb dL_law_1058 ?_
        refine lv_aload_n hx hb dL_law_1059 rfl (lv_at hl 3 rfl) ?_
        refine lv_iload hx hb dL_law_1060 (lv_at hl 0 rfl) ?_
        have hPc := hP.sub (ws' := [(lf, .inl (cI, 7, .inl vf))]) [39] rfl
        have hDc := hD.sub (ws' := [(lf, .inl (cI, 7, .inl vf))]) [39] (by decide) rfl
        have hFc := va_free (wc := [(lf, .inl (cI, 7, .inl vf))]) hD hS hA [39] rfl
        refine va_calli (va_runS (As := [.ref lf, .int r_10]) (rest := [.int ((10 : Int32) * r_10)]) ⟨hx, hb, hml, hown, hts⟩ (c_L_where l dC dI cI cC cS lf _ vf r_10 hq) (va_cwS 2 hts gL_law_L_where rfl rfl rfl (by decide +kernel) ⟨Nat.le_of_ble_eq_true rfl, Nat.le_of_ble_eq_true rfl⟩) (gn_preS hPc hK hN hDc) rfl rfl hl.1 rfl (lv_room (Nat.le_of_ble_eq_true rfl)) dL_law_1062 ⟨show _ ≤ (600000 : Nat) by omega, show _ ≤ (7302250 : Nat) by omega⟩) hS (fun q _ h => hFc q h) hFc (fun r_11 u t H1 locs ht hvm hq hB hz1 hk1 hS => ?_)
        obtain ⟨hP1, hK1, hD1⟩ := hB
        rw [ht] at hP1
        try dsimp only at hq
        have hP := gn_ro (wc := [(lf, .inl (cI, 7, .inl vf))]) hP hD [39] rfl hk1 hP1
        generalize H1 = H at hP hS ⊢
        refine lv_sipush (v := 4095) hx hb dL_law_1065 (by decide) ?_
        have hq := hq (fun (t_12 : Int32) => ∀ (H : Heap) (locs : List Loc) (ls : Array Slot), lwOK (dC, dI) A s (lwWp cI cS aR naS naC naF naK saS saC saF saK aHi aHA jS jC jF jK taF taK aT aCH lf lh lu ld lt lp isSaved npat ngoal ncol nmade nmac nks spat sgoal scol smade smac sks hkept hks hmade hmac hcol hpat hgoal tmade tmac tks wlen wpos wlet wcol wrow wnum chs vf vh vu vd vt vp__8) H locs → lv_has ls 32 [(0, .ref b), (1, .ref aR), (2, .ref lf), (3, .ref lh), (4, .ref lu), (5, .ref ld), (6, .ref lt), (7, .int k7), (17, .int r_3), (18, .int r_5), (21, .ref lp)] → W p l e room_1 s m #[Value.ref b] below meth c H locs (cn + 1) (sn + 64) Q (F0 m 1084 ls [.int t_12, .int ((10 : Int32) * r_10)])) (by
          intro t_12 hq H locs ls hI hl
          obtain ⟨hP, hD, hS⟩ := hI
          refine lv_iadd hx hb dL_law_1084 ?_
          refine lv_topi (fun w20_13 ew20_13 => ?_)
          have hq := hq w20_13 ew20_13
          refine lv_istore (lv' := [(20, .int w20_13), (0, .ref b), (1, .ref aR), (2, .ref lf), (3, .ref lh), (4, .ref lu), (5, .ref ld), (6, .ref lt), (7, .int k7), (17, .int r_3), (18, .int r_5), (21, .ref lp)]) hx hb dL_law_1085 hl (by decide) rfl (fun ls hl => ?_)
          exact next1087 r_3 r_5 w20_13 vp__8 lp _ _ _ ⟨hP, hD, hS⟩ (lv_sub hl [1, 2, 3, 4, 5, 6, 7, 8, 9, 10, 0, 11] rfl) hq)
        refine lv_icmp_le (tgt := 1079) hx hb dL_law_1068 (by decide) (fun hc => ?_) (fun hc => ?_)
        · have hq := hq.1 hc
          refine lv_aload hx hb dL_law_1079 (lv_at hl 5 rfl) ?_
          refine lv_iload hx hb dL_law_1081 (lv_at hl 0 rfl) ?_
          have hin := hq.1
          have hq := hq.2
          refine va_iald hx hb hK hP 41 0 rfl rfl hin dL_law_1083 ?_
          exact hq _ _ _ ⟨hP, hD, hS⟩ (lv_sub hl [1, 2, 3, 4, 5, 6, 7, 8, 9, 10, 13] rfl)
        · have hq := hq.2 hc
          refine lv_aload hx hb dL_law_1071 (lv_at hl 6 rfl) ?_
          refine lv_iload hx hb dL_law_1073 (lv_at hl 0 rfl) ?_
          have hin := hq.1
          have hq := hq.2
          refine va_iald hx hb hK hP 42 0 rfl rfl hin dL_law_1075 ?_
          refine lv_goto (tgt := 1084) hx hb dL_law_1076 (by decide) ?_
          exact hq _ _ _ ⟨hP, hD, hS⟩ (lv_sub hl [1, 2, 3, 4, 5, 6, 7, 8, 9, 10, 13] rfl)
    · have hq := hq.2 hc
      refine lv_aload hx hb dL_law_989 (lv_at hl 12 rfl) ?_
      refine lv_iload hx hb dL_law_991 (lv_at hl 13 rfl) ?_
      refine lv_aload_n hx hb dL_law_993 rfl (lv_at hl 3 rfl) ?_
      refine lv_iload hx hb dL_law_994 (lv_at hl 13 rfl) ?_
      have hin := hq.1
      have hq := hq.2
      refine va_iald hx hb hK hP 40 0 rfl rfl hin dL_law_996 ?_
      refine lv_iconst (v := 1) hx hb dL_law_997 (by decide) ?_
      have hq := hq (fun (t_14 : Int32) => ∀ (H : Heap) (locs : List Loc) (ls : Array Slot), lwOK (dC, dI) A s (lwWp cI cS aR naS naC naF naK saS saC saF saK aHi aHA jS jC jF jK taF taK aT aCH lf lh lu ld lt lp isSaved npat ngoal ncol nmade nmac nks spat sgoal scol smade smac sks hkept hks hmade hmac hcol hpat hgoal tmade tmac tks wlen wpos wlet wcol wrow wnum chs vf vh vu vd vt vp__8) H locs → lv_has ls 32 [(0, .ref b), (1, .ref aR), (2, .ref lf), (3, .ref lh), (4, .ref lu), (5, .ref ld), (6, .ref lt), (7, .int k7), (17, .int r_3), (18, .int r_5), (19, .int r_6), (20, .int (-6 : Int32)), (21, .ref lp), (22, .int v22_7)] → W p l e room_1 s m #[Value.ref b] below meth c H locs (cn + 1) (sn + 64) Q (F0 m 1026 ls [.int t_14, .int v22_7, .ref lp])) (by
        intro t_14 hq H locs ls hI hl
        obtain ⟨hP, hD, hS⟩ := hI
        have hin := hq.1
        have hq := hq.2
        refine va_iast hx hb hK hP hD hS 44 0 rfl rfl hin dL_law_1026 (fun H locs hP hD hS => ?_)
        have hP : va_P (dC, dI) vwCl (lwWp cI cS aR naS naC naF naK saS saC saF saK aHi aHA jS jC jF jK taF taK aT aCH lf lh lu ld lt lp isSaved npat ngoal ncol nmade nmac nks spat sgoal scol smade smac sks hkept hks hmade hmac hcol hpat hgoal tmade tmac tks wlen wpos wlet wcol wrow wnum chs vf vh vu vd vt (upd vp__8 (v22_7).toNatClampNeg t_14)) H := hP
        have hD : va_D A (lwWp cI cS aR naS naC naF naK saS saC saF saK aHi aHA jS jC jF jK taF taK aT aCH lf lh lu ld lt lp isSaved npat ngoal ncol nmade nmac nks spat sgoal scol smade smac sks hkept hks hmade hmac hcol hpat hgoal tmade tmac tks wlen wpos wlet wcol wrow wnum chs vf vh vu vd vt (upd vp__8 (v22_7).toNatClampNeg t_14)) := hD
        refine lv_iinc (v := (v22_7 + (1 : Int32))) (lv' := [(22, .int (v22_7 + (1 : Int32))), (0, .ref b), (1, .ref aR), (2, .ref lf), (3, .ref lh), (4, .ref lu), (5, .ref ld), (6, .ref lt), (7, .int k7), (17, .int r_3), (18, .int r_5), (19, .int r_6), (20, .int (-6 : Int32)), (21, .ref lp)]) hx hb dL_law_1027 hl (k := 13) rfl rfl (by decide) rfl (fun ls hl => ?_)
        refine lv_goto (tgt := 982) hx hb dL_law_1030 (by decide) ?_
        exact hq _ _ _ ⟨hP, hD, hS⟩ (lv_sub hl [1, 2, 3, 4, 5, 6, 7, 8, 9, 10, 11, 12, 13, 0] rfl))
      have hq := hq (∀ (H : Heap) (locs : List Loc) (ls : Array Slot), lwOK (dC, dI) A s (lwWp cI cS aR naS naC naF naK saS saC saF saK aHi aHA jS jC jF jK taF taK aT aCH lf lh lu ld lt lp isSaved npat ngoal ncol nmade nmac nks spat sgoal scol smade smac sks hkept hks hmade hmac hcol hpat hgoal tmade tmac tks wlen wpos wlet wcol wrow wnum chs vf vh vu vd vt vp__8) H locs → lv_has ls 32 [(0, .ref b), (1, .ref aR), (2, .ref lf), (3, .ref lh), (4, .ref lu), (5, .ref ld), (6, .ref lt), (7, .int k7), (17, .int r_3), (18, .int r_5), (19, .int r_6), (20, .int (-6 : Int32)), (21, .ref lp), (22, .int v22_7)] → W p l e room_1 s m #[Value.ref b] below meth c H locs (cn + 1) (sn + 64) Q (F0 m 1021 ls [.int v22_7, .ref lp])) (by
        intro  hq H locs ls hI hl
        obtain ⟨hP, hD, hS⟩ := hI
        refine lv_iconst (v := 1) hx hb dL_law_1021 (by decide) ?_
        refine lv_goto (tgt := 1026) hx hb dL_law_1022 (by decide) ?_
        exact hq _ _ _ ⟨hP, hD, hS⟩ (lv_sub hl [0, 1, 2, 3, 4, 5, 6, 7, 8, 9, 10, 11, 12, 13] rfl))
      refine lv_icmp_eq (tgt := 1021) hx hb dL_law_998 (by decide) (fun hc => ?_) (fun hc => ?_)
      · have hq := hq.1 hc
        exact hq _ _ _ ⟨hP, hD, hS⟩ (lv_sub hl [0, 1, 2, 3, 4, 5, 6, 7, 8, 9, 10, 11, 12, 13] rfl)
      · have hq := hq.2 hc
        refine lv_aload_n hx hb dL_law_1001 rfl (lv_at hl 2 rfl) ?_
        refine lv_iload hx hb dL_law_1002 (lv_at hl 13 rfl) ?_
        have hPc := hP.sub (ws' := [(lf, .inl (cI, 7, .inl vf))]) [39] rfl
        have hDc := hD.sub (ws' := [(lf, .inl (cI, 7, .inl vf))]) [39] (by decide) rfl
        have hFc := va_free (wc := [(lf, .inl (cI, 7, .inl vf))]) hD hS hA [39] rfl
        refine va_calli (va_runS (As := [.ref lf, .int v22_7]) (rest := [.int v22_7, .ref lp]) ⟨hx, hb, hml, hown, hts⟩ (c_L_where l dC dI cI cC cS lf _ vf v22_7 hq) (va_cwS 2 hts gL_law_L_where rfl rfl rfl (by decide +kernel) ⟨Nat.le_of_ble_eq_true rfl, Nat.le_of_ble_eq_true rfl⟩) (gn_preS hPc hK hN hDc) rfl rfl hl.1 rfl (lv_room (Nat.le_of_ble_eq_true rfl)) dL_law_1004 ⟨show _ ≤ (600000 : Nat) by omega, show _ ≤ (7302250 : Nat) by omega⟩) hS (fun q _ h => hFc q h) hFc (fun r_15 u t H1 locs ht hvm hq hB hz1 hk1 hS => ?_)
        obtain ⟨hP1, hK1, hD1⟩ := hB
        rw [ht] at hP1
        try dsimp only at hq
        have hP := gn_ro (wc := [(lf, .inl (cI, 7, .inl vf))]) hP hD [39] rfl hk1 hP1
        generalize H1 = H at hP hS ⊢
        refine lv_bipush (v := 64) hx hb dL_law_1007 (by decide) ?_
        refine lv_irem hx hb dL_law_1009 (by decide) ?_
        refine lv_iload hx hb dL_law_1010 (lv_at hl 8 rfl) ?_
        refine lv_bipush (v := 8) hx hb dL_law_1012 (by decide) ?_
        refine lv_iload hx hb dL_law_1014 (lv_at hl 9 rfl) ?_
        refine lv_imul hx hb dL_law_1016 ?_
        refine lv_iadd hx hb dL_law_1017 ?_
        refine lv_icmp_ne (tgt := 1025) hx hb dL_law_1018 (by decide) (fun hc => ?_) (fun hc => ?_)
        · have hq := hq.1 hc
          refine lv_iconst (v := 0) hx hb dL_law_1025 (by decide) ?_
          exact hq _ _ _ ⟨hP, hD, hS⟩ (lv_sub hl [0, 1, 2, 3, 4, 5, 6, 7, 8, 9, 10, 11, 12, 13] rfl)
        · have hq := hq.2 hc
          exact hq _ _ _ ⟨hP, hD, hS⟩ (lv_sub hl [0, 1, 2, 3, 4, 5, 6, 7, 8, 9, 10, 11, 12, 13] rfl))
  exact hq _ _ _ ⟨hP, hD, hS⟩ (lv_sub hl [7, 8, 9, 10, 11, 12, 13, 14, 5, 4, 3, 2, 1, 0] rfl)
