/-! the class's calls, as the law makes them -/
/-- the recorded states -/
def gH (hkept : Int32) (hks : Nat → Nat → Int32) (hmade hmac : Nat → Int32) (hcol : Nat → Nat → Int32) (hpat hgoal : Nat → Int64) : Prop := ∃ k hp, k ≤ 5 ∧ hkept = nI k ∧ pHC hpat hgoal hcol hmade hmac hks k hp
section
variable {npat ngoal : Int64} {ncol : Nat → Int32} {nmade nmac : Int32} {nks : Nat → Int32} {hkept : Int32} {hks : Nat → Nat → Int32} {hmade hmac : Nat → Int32} {hcol : Nat → Nat → Int32} {hpat hgoal : Nat → Int64} {x x1 x2 x3 : Int32}
theorem cl_fold {post : Int32 → Int32 → Int32 → (Nat → Int32) → Int32 → (Nat → Nat → Int32) → (Nat → Int32) → (Nat → Int32) → (Nat → Nat → Int32) → (Nat → Int64) → (Nat → Int64) → Prop} (p : Pap) (hC : pC npat ngoal ncol nmade nmac nks p) (hH : gH hkept hks hmade hmac hcol hpat hgoal) (f : Nat) (hf : f < 4) (hx : x = nI f)
    (hno : ¬ qCan p f → ∀ a b c d e g h, gH a b c d e g h → post (-3) nmade nmac nks a b c d e g h)
    (hyes : qCan p f → ∀ m' c' s', pC npat ngoal ncol m' c' s' (qFold p f) → ∀ a b c d e g h, gH a b c d e g h → post (nI (2 ^ (qn p + 1))) m' c' s' a b c d e g h) : wp_X5_fold npat ngoal ncol nmade nmac nks hkept hks hmade hmac hcol hpat hgoal x post := by
  subst hx
  obtain ⟨k, hp, hk, ek, hH⟩ := hH
  refine pu_note k hk hp p ek hC hH (fun hks' hmade' hmac' hcol' hpat' hgoal' hH' hCk => ?_)
  refine pu_makeFold p hC (fun z => absurd rfl (z f hf)) (fun f' hf' e z => ?_) (fun f' hf' e z m' c' s' hC' => ?_)
  · have ef : f' = f := (nI_eq (by omega) (by omega)).mp e.symm
    subst ef
    exact pu_keep k hk hp p ek hCk hH' (fun _ => hno z _ _ _ _ _ _ _ ⟨k, hp, hk, rfl, hH'⟩) (fun q => absurd er_3 q)
  · have ef : f' = f := (nI_eq (by omega) (by omega)).mp e.symm
    subst ef
    have b2 := (fp_L_b (fp_ok_6 hC'.1)).2
    have e9 : 2 ^ qn (qFold p f') = 2 ^ (qn p + 1) := rfl
    exact pu_keep k hk hp p ek hCk hH' (fun q => absurd q (ne_nI (by omega))) (fun _ _ _ _ _ _ _ hH'' => hyes z m' c' s' hC' _ _ _ _ _ _ _ ⟨hLen k, hPush k hp p, hLen_le k, rfl, hH''⟩)
theorem cl_unfold {post : Int32 → Int32 → Int32 → Int32 → (Nat → Nat → Int32) → (Nat → Int32) → (Nat → Int32) → (Nat → Nat → Int32) → (Nat → Int64) → (Nat → Int64) → Prop} (p : Pap) (hC : pC npat ngoal ncol nmade nmac nks p) (hH : gH hkept hks hmade hmac hcol hpat hgoal)
    (hno : qn p = 0 → ∀ a b c d e g h, gH a b c d e g h → post (-3) nmade nmac a b c d e g h)
    (hyes : 0 < qn p → ∀ m' c', pC npat ngoal ncol m' c' nks (qBack p) → ∀ a b c d e g h, gH a b c d e g h → post (nI (qf p (qn p - 1))) m' c' a b c d e g h) : wp_X5_unfold npat ngoal ncol nmade nmac nks hkept hks hmade hmac hcol hpat hgoal post := by
  obtain ⟨k, hp, hk, ek, hH⟩ := hH
  refine pu_note k hk hp p ek hC hH (fun hks' hmade' hmac' hcol' hpat' hgoal' hH' hCk => ?_)
  have h6 := fp_ok_6 hC.1
  refine pu_takeFoldBack p hC (fun z => ?_) (fun z m' c' hC' => ?_)
  · exact pu_keep k hk hp p ek hCk hH' (fun _ => hno z _ _ _ _ _ _ _ ⟨k, hp, hk, rfl, hH'⟩) (fun q => absurd er_3 q)
  · have h4 := hC.1.1 (qn p - 1) (by omega)
    exact pu_keep k hk hp p ek hCk hH' (fun q => absurd q (ne_nI (by omega))) (fun _ _ _ _ _ _ _ hH'' => hyes z m' c' hC' _ _ _ _ _ _ _ ⟨hLen k, hPush k hp p, hLen_le k, rfl, hH''⟩)
theorem cl_open {post : Int32 → Int32 → Int32 → Int32 → (Nat → Nat → Int32) → (Nat → Int32) → (Nat → Int32) → (Nat → Nat → Int32) → (Nat → Int64) → (Nat → Int64) → Prop} (p : Pap) (hC : pC npat ngoal ncol nmade nmac nks p) (hH : gH hkept hks hmade hmac hcol hpat hgoal)
    (hyes : ∀ m' c', pC npat ngoal ncol m' c' nks (qOpen p) → ∀ a b c d e g h, gH a b c d e g h → post (nI (qn p)) m' c' a b c d e g h) : wp_X5_open npat ngoal ncol nmade nmac nks hkept hks hmade hmac hcol hpat hgoal post := by
  obtain ⟨k, hp, hk, ek, hH⟩ := hH
  refine pu_note k hk hp p ek hC hH (fun hks' hmade' hmac' hcol' hpat' hgoal' hH' hCk => ?_)
  have h6 := fp_ok_6 hC.1
  refine pu_takeAllBack p hC (fun m' c' hC' => ?_)
  exact pu_keep k hk hp p ek hCk hH' (fun q => absurd q (ne_nI (by omega))) (fun _ _ _ _ _ _ _ hH'' => hyes m' c' hC' _ _ _ _ _ _ _ ⟨hLen k, hPush k hp p, hLen_le k, rfl, hH''⟩)
theorem cl_punch {post : Int32 → Int64 → Int32 → (Nat → Nat → Int32) → (Nat → Int32) → (Nat → Int32) → (Nat → Nat → Int32) → (Nat → Int64) → (Nat → Int64) → Prop} (p : Pap) (hC : pC npat ngoal ncol nmade nmac nks p) (hH : gH hkept hks hmade hmac hcol hpat hgoal)
    (h0 : (∀ c r : Nat, c < qw p → r < qh p → ¬ (x1 = nI c ∧ x2 = nI r)) → ∀ a b c d e g h, gH a b c d e g h → post (-1) npat a b c d e g h)
    (h1 : ∀ c r : Nat, c < qw p → r < qh p → x1 = nI c → x2 = nI r → (∀ d : Nat, 1 ≤ d → d ≤ 2 ^ qn p → x3 ≠ nI d) → ∀ a b c d e g h, gH a b c d e g h → post (-2) npat a b c d e g h)
    (h2 : ∀ c r d : Nat, c < qw p → r < qh p → x1 = nI c → x2 = nI r → 1 ≤ d → d ≤ 2 ^ qn p → x3 = nI d → ∀ pat', pC pat' ngoal ncol nmade nmac nks (qPunch p c r d) → ∀ a b c' d' e g h, gH a b c' d' e g h → post (nI (qNew p c r d)) pat' a b c' d' e g h) : wp_X5_punch npat ngoal ncol nmade nmac nks hkept hks hmade hmac hcol hpat hgoal x1 x2 x3 post := by
  obtain ⟨k, hp, hk, ek, hH⟩ := hH
  refine pu_note k hk hp p ek hC hH (fun hks' hmade' hmac' hcol' hpat' hgoal' hH' hCk => ?_)
  refine pu_makeHoles p hC (fun z => ?_) (fun c r hc hr e1 e2 z => ?_) (fun c r d hc hr e1 e2 d1 d2 e3 pat' hC' => ?_)
  · exact pu_keep k hk hp p ek hCk hH' (fun _ => h0 z _ _ _ _ _ _ _ ⟨k, hp, hk, rfl, hH'⟩) (fun q => absurd er_1 q)
  · exact pu_keep k hk hp p ek hCk hH' (fun _ => h1 c r hc hr e1 e2 z _ _ _ _ _ _ _ ⟨k, hp, hk, rfl, hH'⟩) (fun q => absurd er_2 q)
  · have l := ct_le (qp (qPunch p c r d)) 64
    exact pu_keep k hk hp p ek hCk hH' (fun q => absurd q (ne_nI (by unfold qNew; omega))) (fun _ _ _ _ _ _ _ hH'' => h2 c r d hc hr e1 e2 d1 d2 e3 pat' hC' _ _ _ _ _ _ _ ⟨hLen k, hPush k hp p, hLen_le k, rfl, hH''⟩)
theorem cl_ink {post : Int32 → (Nat → Int32) → Int32 → (Nat → Nat → Int32) → (Nat → Int32) → (Nat → Int32) → (Nat → Nat → Int32) → (Nat → Int64) → (Nat → Int64) → Prop} (p : Pap) (hC : pC npat ngoal ncol nmade nmac nks p) (hH : gH hkept hks hmade hmac hcol hpat hgoal) (c r d : Nat) (hc : c < qw p) (hr : r < qh p) (d1 : 1 ≤ d) (d5 : d ≤ 5) (e1 : x1 = nI c) (e2 : x2 = nI r) (e3 : x3 = nI d)
    (h2 : qT p c r = 2 ^ qn p → ∀ a b c d e g h, gH a b c d e g h → post (-6) ncol a b c d e g h)
    (h3 : qT p c r < 2 ^ qn p → ∀ col', pC npat ngoal col' nmade nmac nks (qInk p (qu p c r (qT p c r)) (nI d)) → ∀ a b c' d e g h, gH a b c' d e g h → post (nI (qu p c r (qT p c r) / 2)) col' a b c' d e g h) : wp_X5_ink npat ngoal ncol nmade nmac nks hkept hks hmade hmac hcol hpat hgoal x1 x2 x3 post := by
  subst e1 e2 e3
  obtain ⟨k, hp, hk, ek, hH⟩ := hH
  have bw := fp_w_b _ _ hC.1
  have bh := fp_h_b _ _ hC.1
  have c8 : c < 8 := Nat.lt_of_lt_of_le hc bw.2
  have r8 : r < 8 := Nat.lt_of_lt_of_le hr bh.2
  refine pu_note k hk hp p ek hC hH (fun hks' hmade' hmac' hcol' hpat' hgoal' hH' hCk => ?_)
  refine pu_dropInk p hC (fun z => absurd ⟨rfl, rfl⟩ (z c r hc hr)) (fun c' r' hc' hr' e1 e2 z => absurd rfl (z d d1 d5)) (fun c' r' d' hc' hr' e1 e2 d1' d5' e3 z => ?_) (fun c' r' d' hc' hr' e1 e2 d1' d5' e3 z col' hC' => ?_)
  · have c8' : c' < 8 := Nat.lt_of_lt_of_le hc' bw.2
    have r8' : r' < 8 := Nat.lt_of_lt_of_le hr' bh.2
    have ec : c' = c := (nI_eq (by omega) (by omega)).mp e1.symm
    have er : r' = r := (nI_eq (by omega) (by omega)).mp e2.symm
    subst ec er
    exact pu_keep k hk hp p ek hCk hH' (fun q => absurd q ne_6) (fun _ _ _ _ _ _ _ hH'' => h2 z _ _ _ _ _ _ _ ⟨hLen k, hPush k hp p, hLen_le k, rfl, hH''⟩)
  · have c8' : c' < 8 := Nat.lt_of_lt_of_le hc' bw.2
    have r8' : r' < 8 := Nat.lt_of_lt_of_le hr' bh.2
    have ec : c' = c := (nI_eq (by omega) (by omega)).mp e1.symm
    have er : r' = r := (nI_eq (by omega) (by omega)).mp e2.symm
    have ed : d' = d := (nI_eq (by omega) (by omega)).mp e3.symm
    subst ec er ed
    have us := fp_us_lt _ _ c' r' (qT p c' r') hC.1 hc hr z
    have us' : qu p c' r' (qT p c' r') < 128 := us
    exact pu_keep k hk hp p ek hCk hH' (fun q => absurd q (ne_nI (by omega))) (fun _ _ _ _ _ _ _ hH'' => h3 z col' hC' _ _ _ _ _ _ _ ⟨hLen k, hPush k hp p, hLen_le k, rfl, hH''⟩)
theorem cl_mend {post : Int32 → Int64 → (Nat → Int32) → Int32 → (Nat → Nat → Int32) → (Nat → Int32) → (Nat → Int32) → (Nat → Nat → Int32) → (Nat → Int64) → (Nat → Int64) → Prop} (p : Pap) (hC : pC npat ngoal ncol nmade nmac nks p) (hH : gH hkept hks hmade hmac hcol hpat hgoal) (c r : Nat) (hc : c < qw p) (hr : r < qh p) (e1 : x1 = nI c) (e2 : x2 = nI r)
    (h1 : qp p (qu p c r 0 / 2) = false → ∀ a b c d e g h, gH a b c d e g h → post (-3) npat ncol a b c d e g h)
    (h2 : qp p (qu p c r 0 / 2) = true → ∀ pat' col', pC pat' ngoal col' nmade nmac nks (qMend p (qu p c r 0 / 2)) → ∀ a b c' d e g h, gH a b c' d e g h → post (nI (qu p c r 0 / 2)) pat' col' a b c' d e g h) : wp_X5_mend npat ngoal ncol nmade nmac nks hkept hks hmade hmac hcol hpat hgoal x1 x2 post := by
  subst e1 e2
  obtain ⟨k, hp, hk, ek, hH⟩ := hH
  have bw := fp_w_b _ _ hC.1
  have bh := fp_h_b _ _ hC.1
  have c8 : c < 8 := Nat.lt_of_lt_of_le hc bw.2
  have r8 : r < 8 := Nat.lt_of_lt_of_le hr bh.2
  have us := fp_us_lt _ _ c r 0 hC.1 hc hr (by have := (fp_L_b (fp_ok_6 hC.1)).1; omega)
  have us' : qu p c r 0 < 128 := us
  refine pu_note k hk hp p ek hC hH (fun hks' hmade' hmac' hcol' hpat' hgoal' hH' hCk => ?_)
  refine pu_mendTop p hC (fun z => absurd ⟨rfl, rfl⟩ (z c r hc hr)) (fun c' r' hc' hr' e1 e2 z => ?_) (fun c' r' hc' hr' e1 e2 z pat' col' hC' => ?_)
  · have c8' : c' < 8 := Nat.lt_of_lt_of_le hc' bw.2
    have r8' : r' < 8 := Nat.lt_of_lt_of_le hr' bh.2
    have ec : c' = c := (nI_eq (by omega) (by omega)).mp e1.symm
    have er : r' = r := (nI_eq (by omega) (by omega)).mp e2.symm
    subst ec er
    exact pu_keep k hk hp p ek hCk hH' (fun _ => h1 z _ _ _ _ _ _ _ ⟨k, hp, hk, rfl, hH'⟩) (fun q => absurd er_3 q)
  · have c8' : c' < 8 := Nat.lt_of_lt_of_le hc' bw.2
    have r8' : r' < 8 := Nat.lt_of_lt_of_le hr' bh.2
    have ec : c' = c := (nI_eq (by omega) (by omega)).mp e1.symm
    have er : r' = r := (nI_eq (by omega) (by omega)).mp e2.symm
    subst ec er
    exact pu_keep k hk hp p ek hCk hH' (fun q => absurd q (ne_nI (by omega))) (fun _ _ _ _ _ _ _ hH'' => h2 z pat' col' hC' _ _ _ _ _ _ _ ⟨hLen k, hPush k hp p, hLen_le k, rfl, hH''⟩)
theorem cl_aim {post : Int32 → Int64 → Int32 → (Nat → Nat → Int32) → (Nat → Int32) → (Nat → Int32) → (Nat → Nat → Int32) → (Nat → Int64) → (Nat → Int64) → Prop} (p : Pap) (hC : pC npat ngoal ncol nmade nmac nks p) (hH : gH hkept hks hmade hmac hcol hpat hgoal) (r m : Nat) (hr : r < 8) (hm : m < 256) (e1 : x1 = nI r) (e2 : x2 = nI m)
    (h2 : ∀ goal', pC npat goal' ncol nmade nmac nks (qAim p r m) → ∀ a b c d e g h, gH a b c d e g h → post (nI (rowN (fun c => qg p (8 * r + c)) 8)) goal' a b c d e g h) : wp_X5_aim npat ngoal ncol nmade nmac nks hkept hks hmade hmac hcol hpat hgoal x1 x2 post := by
  subst e1 e2
  obtain ⟨k, hp, hk, ek, hH⟩ := hH
  refine pu_note k hk hp p ek hC hH (fun hks' hmade' hmac' hcol' hpat' hgoal' hH' hCk => ?_)
  refine pu_changeGoal p hC (fun z => absurd rfl (z r hr)) (fun r' hr' e z => absurd rfl (z m hm)) (fun r' m' hr' e1 hm' e2 goal' hC' => ?_)
  have er : r' = r := (nI_eq (by omega) (by omega)).mp e1.symm
  have em : m' = m := (nI_eq (by omega) (by omega)).mp e2.symm
  subst er em
  have l := rowN_lt (fun c => qg p (8 * r' + c)) 8
  exact pu_keep k hk hp p ek hCk hH' (fun q => absurd q (ne_nI (by omega))) (fun _ _ _ _ _ _ _ hH'' => h2 goal' hC' _ _ _ _ _ _ _ ⟨hLen k, hPush k hp p, hLen_le k, rfl, hH''⟩)
theorem cl_aimHere {post : Int32 → Int64 → Int32 → (Nat → Nat → Int32) → (Nat → Int32) → (Nat → Int32) → (Nat → Nat → Int32) → (Nat → Int64) → (Nat → Int64) → Prop} (p : Pap) (hC : pC npat ngoal ncol nmade nmac nks p) (hH : gH hkept hks hmade hmac hcol hpat hgoal)
    (h2 : pC npat npat ncol nmade nmac nks (qHere p) → ∀ a b c d e g h, gH a b c d e g h → post (nI (ct (qp p) 64)) npat a b c d e g h) : wp_X5_aimHere npat ngoal ncol nmade nmac nks hkept hks hmade hmac hcol hpat hgoal post := by
  obtain ⟨k, hp, hk, ek, hH⟩ := hH
  refine pu_note k hk hp p ek hC hH (fun hks' hmade' hmac' hcol' hpat' hgoal' hH' hCk => ?_)
  refine pu_bitCount ?_
  have e1 : cB npat = ct (qp p) 64 := ct_congr (fun c hc => hC.2.2.2.2.1 c hc)
  have e2 := ct_le (qp p) 64
  rw [e1]
  have hC' : pC npat npat ncol nmade nmac nks (qHere p) := ⟨hC.1, hC.2.1, hC.2.2.1, hC.2.2.2.1, hC.2.2.2.2.1, hC.2.2.2.2.2.1, hC.2.2.2.2.1⟩
  exact pu_keep k hk hp p ek hCk hH' (fun q => absurd q (ne_nI (by omega))) (fun _ _ _ _ _ _ _ hH'' => h2 hC' _ _ _ _ _ _ _ ⟨hLen k, hPush k hp p, hLen_le k, rfl, hH''⟩)
end
