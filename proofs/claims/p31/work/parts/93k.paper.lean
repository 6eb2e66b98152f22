def wp_sg_paper (npat : Int64) (ngoal : Int64) (ncol : Nat → Int32) (nmade : Int32) (nmac : Int32) (nks : Nat → Int32) (vf : Nat → Int32) (vh : Nat → Int32) (vu : Nat → Int32) (vd : Nat → Int32) (vt : Nat → Int32) (k15 : Int32) (post915 : Prop) : Prop :=
  ((k15 = 0) → False) ∧ ((¬ k15 = 0) → wp_L_paper npat ngoal ncol nmade nmac nks vf vh vu vd vt (fun r_1 => ((¬ r_1 = 0) → post915) ∧ ((r_1 = 0) → False)))

set_option maxHeartbeats 8000000 in
set_option maxRecDepth 100000 in
theorem sg_paper {p : Program} {l : Launch} {e : Env} {s : State} {m : MethodId} {below : List Frame} {meth : Method} {c : Code} {A : Nat → Prop} {dC : Nat → ClassId} {dI : Nat → Nat → Nat} {cI cC cS : ClassId} {b L : Nat} {xs : Nat → Int32} {Q : State → Prop} (hL : L ≤ 260) (C0 : lw_At p s m meth c b L xs) (hA : ∀ q : Nat, s.heap.size ≤ q → A q) (hbA : ¬ A b) (hN : gn_nw s) (hK : va_K (dC, dI) vwCl (gn_tys cI cC cS) s) (aR : Nat) (naS : Nat) (naC : Nat) (naF : Nat) (naK : Nat) (saS : Nat) (saC : Nat) (saF : Nat) (saK : Nat) (aHi : Nat) (aHA : Nat) (jS : Nat → Nat) (jC : Nat → Nat) (jF : Nat → Nat) (jK : Nat → Nat) (taF : Nat) (taK : Nat) (aT : Nat) (aCH : Nat) (lf : Nat) (lh : Nat) (lu : Nat) (ld : Nat) (lt : Nat) (isSaved : Int32) (npat : Int64) (ngoal : Int64) (ncol : Nat → Int32) (nmade : Int32) (nmac : Int32) (nks : Nat → Int32) (spat : Int64) (sgoal : Int64) (scol : Nat → Int32) (smade : Int32) (smac : Int32) (sks : Nat → Int32) (hkept : Int32) (hks : Nat → Nat → Int32) (hmade : Nat → Int32) (hmac : Nat → Int32) (hcol : Nat → Nat → Int32) (hpat : Nat → Int64) (hgoal : Nat → Int64) (tmade : Int32) (tmac : Int32) (tks : Nat → Int32) (wlen : Int32) (wpos : Int32) (wlet : Int32) (wcol : Int32) (wrow : Int32) (wnum : Int32) (chs : Nat → Int32) (vf : Nat → Int32) (vh : Nat → Int32) (vu : Nat → Int32) (vd : Nat → Int32) (vt : Nat → Int32) (k7 : Int32) (k15 : Int32) (cn sn : Nat) (hcn : cn ≤ 500000) (hsn : sn ≤ 7000000) {post915 : Prop} (hq : wp_sg_paper npat ngoal ncol nmade nmac nks vf vh vu vd vt k15 post915) (H : Heap) (locs : List Loc) (hI : lwOK (dC, dI) A s (lwW cI cS aR naS naC naF naK saS saC saF saK aHi aHA jS jC jF jK taF taK aT aCH lf lh lu ld lt isSaved npat ngoal ncol nmade nmac nks spat sgoal scol smade smac sks hkept hks hmade hmac hcol hpat hgoal tmade tmac tks wlen wpos wlet wcol wrow wnum chs vf vh vu vd vt) H locs) (ls : Array Slot) (hl : lv_has ls 32 [(0, .ref b), (1, .ref aR), (2, .ref lf), (3, .ref lh), (4, .ref lu), (5, .ref ld), (6, .ref lt), (7, .int k7), (15, .int k15)]) (next915 : ∀  (H : Heap) (locs : List Loc) (ls : Array Slot), lwOK (dC, dI) A s (lwW cI cS aR naS naC naF naK saS saC saF saK aHi aHA jS jC jF jK taF taK aT aCH lf lh lu ld lt isSaved npat ngoal ncol nmade nmac nks spat sgoal scol smade smac sks hkept hks hmade hmac hcol hpat hgoal tmade tmac tks wlen wpos wlet wcol wrow wnum chs vf vh vu vd vt) H locs → lv_has ls 32 [(0, .ref b), (1, .ref aR), (2, .ref lf), (3, .ref lh), (4, .ref lu), (5, .ref ld), (6, .ref lt), (7, .int k7)] → post915  → W p l e room_1 s m #[Value.ref b] below meth c H locs (cn + 2) (sn + 128) Q (F0 m 915 ls [])) : W p l e room_1 s m #[Value.ref b] below meth c H locs cn sn Q (F0 m 893 ls []) := by
  unfold wp_sg_paper at hq
  obtain ⟨hP, hD, hS⟩ := hI
  obtain ⟨hx, hb, hr, hml, hown, htt, hX, hbl, hlocks, hgv⟩ := C0
  have hts : ∀ w ∈ wsL_law, w.before #[Value.ref b] s = true := fun w h => htt w (wsL_law_in w h)
  have hown : s.vm.findClass RL = some m.cls := hown
  refine lv_iload hx hb dL_law_893 (lv_at hl 8 rfl) ?_
  refine lv_if_eq (tgt := 913) hx hb dL_law_895 (by decide) (fun hc => ?_) (fun hc => ?_)
  · have hq := hq.1 hc
    refine lv_iconst (v := 0) hx hb dL_law_913 (by decide) ?_
    exact hq.elim
  · have hq := hq.2 hc
    refine lv_aload_n hx hb dL_law_898 rfl (lv_at hl 1 rfl) ?_
    refine lv_aload_n hx hb dL_law_899 rfl (lv_at hl 2 rfl) ?_
    refine lv_aload_n hx hb dL_law_900 rfl (lv_at hl 3 rfl) ?_
    refine lv_aload hx hb dL_law_901 (lv_at hl 4 rfl) ?_
    refine lv_aload hx hb dL_law_903 (lv_at hl 5 rfl) ?_
    refine lv_aload hx hb dL_law_905 (lv_at hl 6 rfl) ?_
    have hPc := hP.sub (ws' := [(aR, .inr (4, [.ref naS, .ref saS, .int isSaved, .ref aHi, .ref taF, .ref aT])), (naS, .inr (2, [.ref naF, .ref naC, .long npat, .long ngoal])), (naC, .inl (cI, 128, .inl ncol)), (naF, .inr (0, [.ref naK, .int nmade, .int nmac])), (naK, .inl (cI, 6, .inl nks)), (lf, .inl (cI, 7, .inl vf)), (lh, .inl (cI, 64, .inl vh)), (lu, .inl (cI, 64, .inl vu)), (ld, .inl (cI, 64, .inl vd)), (lt, .inl (cI, 8, .inl vt))]) [0, 1, 2, 3, 4, 39, 40, 41, 42, 43] rfl
    have hDc := hD.sub (ws' := [(aR, .inr (4, [.ref naS, .ref saS, .int isSaved, .ref aHi, .ref taF, .ref aT])), (naS, .inr (2, [.ref naF, .ref naC, .long npat, .long ngoal])), (naC, .inl (cI, 128, .inl ncol)), (naF, .inr (0, [.ref naK, .int nmade, .int nmac])), (naK, .inl (cI, 6, .inl nks)), (lf, .inl (cI, 7, .inl vf)), (lh, .inl (cI, 64, .inl vh)), (lu, .inl (cI, 64, .inl vu)), (ld, .inl (cI, 64, .inl vd)), (lt, .inl (cI, 8, .inl vt))]) [0, 1, 2, 3, 4, 39, 40, 41, 42, 43] (by decide) rfl
    have hFc := va_free (wc := [(aR, .inr (4, [.ref naS, .ref saS, .int isSaved, .ref aHi, .ref taF, .ref aT])), (naS, .inr (2, [.ref naF, .ref naC, .long npat, .long ngoal])), (naC, .inl (cI, 128, .inl ncol)), (naF, .inr (0, [.ref naK, .int nmade, .int nmac])), (naK, .inl (cI, 6, .inl nks)), (lf, .inl (cI, 7, .inl vf)), (lh, .inl (cI, 64, .inl vh)), (lu, .inl (cI, 64, .inl vu)), (ld, .inl (cI, 64, .inl vd)), (lt, .inl (cI, 8, .inl vt))]) hD hS hA [0, 1, 2, 3, 4, 39, 40, 41, 42, 43] rfl
    refine va_calli (va_runS (As := [.ref aR, .ref lf, .ref lh, .ref lu, .ref ld, .ref lt]) (rest := []) ⟨hx, hb, hml, hown, hts⟩ (c_L_paper l dC dI cI cC cS aR naS naC naF naK saS aHi taF aT lf lh lu ld lt _ isSaved npat ngoal ncol nmade nmac nks vf vh vu vd vt hq) (va_cwS 6 hts gL_law_L_paper rfl rfl rfl (by decide +kernel) ⟨Nat.le_of_ble_eq_true rfl, Nat.le_of_ble_eq_true rfl⟩) (gn_preS hPc hK hN hDc) rfl rfl hl.1 rfl (lv_room (Nat.le_of_ble_eq_true rfl)) dL_law_907 ⟨show _ ≤ (600000 : Nat) by omega, show _ ≤ (7302250 : Nat) by omega⟩) hS (fun q _ h => hFc q h) hFc (fun r_1 u t H1 locs ht hvm hq hB hz1 hk1 hS => ?_)
    obtain ⟨hP1, hK1, hD1⟩ := hB
    rw [ht] at hP1
    try dsimp only at hq
    have hP := gn_ro (wc := [(aR, .inr (4, [.ref naS, .ref saS, .int isSaved, .ref aHi, .ref taF, .ref aT])), (naS, .inr (2, [.ref naF, .ref naC, .long npat, .long ngoal])), (naC, .inl (cI, 128, .inl ncol)), (naF, .inr (0, [.ref naK, .int nmade, .int nmac])), (naK, .inl (cI, 6, .inl nks)), (lf, .inl (cI, 7, .inl vf)), (lh, .inl (cI, 64, .inl vh)), (lu, .inl (cI, 64, .inl vu)), (ld, .inl (cI, 64, .inl vd)), (lt, .inl (cI, 8, .inl vt))]) hP hD [0, 1, 2, 3, 4, 39, 40, 41, 42, 43] rfl hk1 hP1
    generalize H1 = H at hP hS ⊢
    refine W.widen (k := (cn + 2)) (n := (sn + 128)) (by omega) (by omega) ?_
    refine lv_if_ne (tgt := 915) hx hb dL_law_910 (by decide) (fun hc => ?_) (fun hc => ?_)
    · have hq := hq.1 hc
      exact next915  _ _ _ ⟨hP, hD, hS⟩ (lv_sub hl [0, 1, 2, 3, 4, 5, 6, 7] rfl) hq
    · have hq := hq.2 hc
      refine lv_iconst (v := 0) hx hb dL_law_913 (by decide) ?_
      exact hq.elim
