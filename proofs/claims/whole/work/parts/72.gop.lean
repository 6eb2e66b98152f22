/-! the relation between the class's numbers and the reference's, and the facts of the calls -/
/-- what both hold: paper, saved paper, whether there is one, number of recorded states, these, length of the text, its signs -/
def gW (isSaved : Int32) (npat : Int64) (ngoal : Int64) (ncol : Nat → Int32) (nmade : Int32) (nmac : Int32) (nks : Nat → Int32) (spat : Int64) (sgoal : Int64) (scol : Nat → Int32) (smade : Int32) (smac : Int32) (sks : Nat → Int32) (hkept : Int32) (hks : Nat → Nat → Int32) (hmade : Nat → Int32) (hmac : Nat → Int32) (hcol : Nat → Nat → Int32) (hpat : Nat → Int64) (hgoal : Nat → Int64) (wlen : Int32) (chs : Nat → Int32) (pastMany : Int32) (isKept : Int32) (typed : Int32) (zz : Nat → Int32) (past : Nat → Int32) (kz : Nat → Int32) (buf : Nat → Int32) (p sp : Pap) (ik : Bool) (k : Nat) (hp : Nat → Pap) (tl : Nat) (tx : Nat → Nat) : Prop :=
  k ≤ 5 ∧ pC npat ngoal ncol nmade nmac nks p ∧ (ik = true → pC spat sgoal scol smade smac sks sp) ∧ isSaved = bI ik ∧ hkept = nI k ∧ pHC hpat hgoal hcol hmade hmac hks k hp ∧ (tl ≤ 60 ∧ wlen = nI tl ∧ (∀ i, i < tl → chs i = nI (tx i)) ∧ ∀ i, i < tl → 33 ≤ tx i ∧ tx i ≤ 126) ∧ pM zz p ∧ (ik = true → pM kz sp) ∧ isKept = bI ik ∧ pastMany = nI k ∧ pH past k hp ∧ typed = nI tl ∧ ∀ i, i < tl → buf i = nI (tx i)
def gR : gRelT := fun isSaved npat ngoal ncol nmade nmac nks spat sgoal scol smade smac sks hkept hks hmade hmac hcol hpat hgoal tmade tmac tks wlen wpos wlet wcol wrow wnum chs pastMany isKept typed wid hei toldMany spot wrong zz past kz buf stk laid pcs told => ∃ (p sp : Pap) (ik : Bool) (k : Nat) (hp : Nat → Pap) (tl : Nat) (tx : Nat → Nat), gW isSaved npat ngoal ncol nmade nmac nks spat sgoal scol smade smac sks hkept hks hmade hmac hcol hpat hgoal wlen chs pastMany isKept typed zz past kz buf p sp ik k hp tl tx
theorem hLen_le (k : Nat) : hLen k ≤ 5 := by
  unfold hLen
  split <;> omega
theorem gop_fold : gOp_fold gR := by
  intro isSaved npat ngoal ncol nmade nmac nks spat sgoal scol smade smac sks hkept hks hmade hmac hcol hpat hgoal tmade tmac tks wlen wpos wlet wcol wrow wnum chs pastMany isKept typed wid hei toldMany spot wrong zz past kz buf stk laid pcs told hR x1
  obtain ⟨p, sp, ik, k, hp, tl, tx, hk, hC, hS, ei, ek, hH, hT, hM, hKz, eik, ekm, hPH, eT⟩ := hR
  refine pu_note k hk hp p ek hC hH (fun hks' hmade' hmac' hcol' hpat' hgoal' hH' hCk => ?_)
  refine pu_makeFold p hC (fun z => ?_) (fun f hf e z => ?_) (fun f hf e z m' c' s' hC' => ?_)
  · refine pu_keep k hk hp p ek hCk hH' (fun _ => ?_) (fun q => absurd er_2 q)
    refine pm_fold k hk hp p hM ekm hPH (fun _ _ _ _ _ => ⟨rfl, ⟨p, sp, ik, k, hp, tl, tx, hk, hC, hS, ei, rfl, hH', hT, hM, hKz, eik, ekm, hPH, eT⟩⟩) (fun f hf e => absurd e (z f hf)) (fun f hf e => absurd e (z f hf))
  · refine pu_keep k hk hp p ek hCk hH' (fun _ => ?_) (fun q => absurd er_3 q)
    refine pm_fold k hk hp p hM ekm hPH (fun q => absurd e (q f hf)) (fun _ _ _ _ _ _ _ _ => ⟨rfl, ⟨p, sp, ik, k, hp, tl, tx, hk, hC, hS, ei, rfl, hH', hT, hM, hKz, eik, ekm, hPH, eT⟩⟩) (fun f' hf' e' z' => absurd z' ?_)
    have ef : f' = f := (nI_eq (by omega) (by omega)).mp (e'.symm.trans e)
    rw [ef]; exact z
  · refine pu_keep k hk hp p ek hCk hH' (fun q => absurd q (ne_nI (by have := (fp_L_b (fp_ok_6 hC'.1)).2; have e9 : 2 ^ qn (qFold p f) = 2 ^ (qn p + 1) := rfl; omega))) (fun _ _ _ _ _ _ _ hH'' => ?_)
    refine pm_fold k hk hp p hM ekm hPH (fun q => absurd e (q f hf)) (fun f' hf' e' z' => absurd ?_ z') (fun f' hf' e' z' _ _ _ _ _ _ hM' hPH' => ?_)
    · have ef : f' = f := (nI_eq (by omega) (by omega)).mp (e'.symm.trans e)
      rw [ef]; exact z
    · have ef : f' = f := (nI_eq (by omega) (by omega)).mp (e'.symm.trans e)
      subst ef
      exact ⟨rfl, ⟨qFold p f', sp, ik, hLen k, hPush k hp p, tl, tx, hLen_le k, hC', hS, ei, rfl, hH'', hT, hM', hKz, eik, rfl, hPH', eT⟩⟩
theorem gop_unfold : gOp_unfold gR := by
  intro isSaved npat ngoal ncol nmade nmac nks spat sgoal scol smade smac sks hkept hks hmade hmac hcol hpat hgoal tmade tmac tks wlen wpos wlet wcol wrow wnum chs pastMany isKept typed wid hei toldMany spot wrong zz past kz buf stk laid pcs told hR
  obtain ⟨p, sp, ik, k, hp, tl, tx, hk, hC, hS, ei, ek, hH, hT, hM, hKz, eik, ekm, hPH, eT⟩ := hR
  refine pu_note k hk hp p ek hC hH (fun hks' hmade' hmac' hcol' hpat' hgoal' hH' hCk => ?_)
  have h6 := fp_ok_6 hC.1
  refine pu_takeFoldBack p hC (fun z => ?_) (fun z m' c' hC' => ?_)
  · refine pu_keep k hk hp p ek hCk hH' (fun _ => ?_) (fun q => absurd er_3 q)
    refine pm_unfold k hk hp p hM ekm hPH (fun _ => ⟨rfl, ⟨p, sp, ik, k, hp, tl, tx, hk, hC, hS, ei, rfl, hH', hT, hM, hKz, eik, ekm, hPH, eT⟩⟩) (fun q => absurd z (by omega))
  · have h4 := hC.1.1 (qn p - 1) (by omega)
    refine pu_keep k hk hp p ek hCk hH' (fun q => absurd q (ne_nI (by omega))) (fun _ _ _ _ _ _ _ hH'' => ?_)
    refine pm_unfold k hk hp p hM ekm hPH (fun q => absurd q (by omega)) (fun _ _ _ hM' hPH' => ⟨rfl, ⟨qBack p, sp, ik, hLen k, hPush k hp p, tl, tx, hLen_le k, hC', hS, ei, rfl, hH'', hT, hM', hKz, eik, rfl, hPH', eT⟩⟩)
theorem gop_open : gOp_open gR := by
  intro isSaved npat ngoal ncol nmade nmac nks spat sgoal scol smade smac sks hkept hks hmade hmac hcol hpat hgoal tmade tmac tks wlen wpos wlet wcol wrow wnum chs pastMany isKept typed wid hei toldMany spot wrong zz past kz buf stk laid pcs told hR
  obtain ⟨p, sp, ik, k, hp, tl, tx, hk, hC, hS, ei, ek, hH, hT, hM, hKz, eik, ekm, hPH, eT⟩ := hR
  refine pu_note k hk hp p ek hC hH (fun hks' hmade' hmac' hcol' hpat' hgoal' hH' hCk => ?_)
  have h6 := fp_ok_6 hC.1
  refine pu_takeAllBack p hC (fun m' c' hC' => ?_)
  refine pu_keep k hk hp p ek hCk hH' (fun q => absurd q (ne_nI (by omega))) (fun _ _ _ _ _ _ _ hH'' => ?_)
  refine pm_open k hk hp p hM ekm hPH (fun _ _ hM' hPH' => ⟨rfl, ⟨qOpen p, sp, ik, hLen k, hPush k hp p, tl, tx, hLen_le k, hC', hS, ei, rfl, hH'', hT, hM', hKz, eik, rfl, hPH', eT⟩⟩)
theorem gop_size : gOp_size gR := by
  intro isSaved npat ngoal ncol nmade nmac nks spat sgoal scol smade smac sks hkept hks hmade hmac hcol hpat hgoal tmade tmac tks wlen wpos wlet wcol wrow wnum chs pastMany isKept typed wid hei toldMany spot wrong zz past kz buf stk laid pcs told hR x1
  obtain ⟨p, sp, ik, k, hp, tl, tx, hk, hC, hS, ei, ek, hH, hT, hM, hKz, eik, ekm, hPH, eT⟩ := hR
  have hC0 := hC
  obtain ⟨ok, hn, hm, -⟩ := hC
  refine ⟨fun z => ?_, fun e => ?_, fun e => ?_, fun e => ?_, fun e => ?_⟩
  · refine pm_size p hM (fun _ _ _ _ _ => ⟨rfl, ⟨p, sp, ik, k, hp, tl, tx, hk, hC0, hS, ei, ek, hH, hT, hM, hKz, eik, ekm, hPH, eT⟩⟩) (fun j hj e => absurd z ?_)
    subst e
    rw [nI_toInt (by omega)]
    omega
  · refine pu_columns _ _ ok hm ?_
    refine pm_size p hM (fun z => absurd z (by rw [e]; decide)) (fun j hj e' _ _ _ _ => ?_)
    have ej : j = 0 := (nI_eq (b := 0) (by omega) (by omega)).mp (e'.symm.trans e)
    subst ej
    exact ⟨rfl, ⟨p, sp, ik, k, hp, tl, tx, hk, hC0, hS, ei, ek, hH, hT, hM, hKz, eik, ekm, hPH, eT⟩⟩
  · refine pu_rows _ _ ok hn hm ?_
    refine pm_size p hM (fun z => absurd z (by rw [e]; decide)) (fun j hj e' _ _ _ _ => ?_)
    have ej : j = 1 := (nI_eq (b := 1) (by omega) (by omega)).mp (e'.symm.trans e)
    subst ej
    exact ⟨rfl, ⟨p, sp, ik, k, hp, tl, tx, hk, hC0, hS, ei, ek, hH, hT, hM, hKz, eik, ekm, hPH, eT⟩⟩
  · refine pu_layers _ (fp_ok_6 ok) hn ?_
    refine pm_size p hM (fun z => absurd z (by rw [e]; decide)) (fun j hj e' _ _ _ _ => ?_)
    have ej : j = 2 := (nI_eq (b := 2) (by omega) (by omega)).mp (e'.symm.trans e)
    subst ej
    exact ⟨rfl, ⟨p, sp, ik, k, hp, tl, tx, hk, hC0, hS, ei, ek, hH, hT, hM, hKz, eik, ekm, hPH, eT⟩⟩
  · refine pm_size p hM (fun z => absurd z (by rw [e]; decide)) (fun j hj e' _ _ _ _ => ?_)
    have ej : j = 3 := (nI_eq (b := 3) (by omega) (by omega)).mp (e'.symm.trans e)
    subst ej
    exact ⟨hn, ⟨p, sp, ik, k, hp, tl, tx, hk, hC0, hS, ei, ek, hH, hT, hM, hKz, eik, ekm, hPH, eT⟩⟩
theorem gop_foldAt : gOp_foldAt gR := by
  intro isSaved npat ngoal ncol nmade nmac nks spat sgoal scol smade smac sks hkept hks hmade hmac hcol hpat hgoal tmade tmac tks wlen wpos wlet wcol wrow wnum chs pastMany isKept typed wid hei toldMany spot wrong zz past kz buf stk laid pcs told hR x1
  obtain ⟨p, sp, ik, k, hp, tl, tx, hk, hC, hS, ei, ek, hH, hT, hM, hKz, eik, ekm, hPH, eT⟩ := hR
  have hC0 := hC
  obtain ⟨ok, hn, hm, hks_, -⟩ := hC
  have h6 := fp_ok_6 ok
  refine pu_hasFold _ h6 hn (fun z => ?_) (fun j hj e => ?_)
  · refine br_t rfl ?_
    exact pm_foldAt p hM (fun _ => ⟨rfl, ⟨p, sp, ik, k, hp, tl, tx, hk, hC0, hS, ei, ek, hH, hT, hM, hKz, eik, ekm, hPH, eT⟩⟩) (fun j hj e => absurd e (z j hj))
  · refine br_f (by decide) ?_
    have e0 := e
    subst e
    refine pu_kindOf j (by omega) ?_
    refine pm_foldAt p hM (fun z => absurd rfl (z j hj)) (fun j' hj' e' => ?_)
    have ej : j = j' := (nI_eq (by omega) (by omega)).mp e'
    subst ej
    exact ⟨hks_ j hj, ⟨p, sp, ik, k, hp, tl, tx, hk, hC0, hS, ei, ek, hH, hT, hM, hKz, eik, ekm, hPH, eT⟩⟩
theorem gop_punch : gOp_punch gR := by
  intro isSaved npat ngoal ncol nmade nmac nks spat sgoal scol smade smac sks hkept hks hmade hmac hcol hpat hgoal tmade tmac tks wlen wpos wlet wcol wrow wnum chs pastMany isKept typed wid hei toldMany spot wrong zz past kz buf stk laid pcs told hR x1 x2 x3
  obtain ⟨p, sp, ik, k, hp, tl, tx, hk, hC, hS, ei, ek, hH, hT, hM, hKz, eik, ekm, hPH, eT⟩ := hR
  refine pu_note k hk hp p ek hC hH (fun hks' hmade' hmac' hcol' hpat' hgoal' hH' hCk => ?_)
  have bw := qw_b hC.1
  have bh := qh_b hC.1
  have bL := fp_L_b (fp_ok_6 hC.1)
  refine pu_makeHoles p hC (fun z => ?_) (fun c r hc hr e1 e2 z => ?_) (fun c r d hc hr e1 e2 d1 d2 e3 pat' hC' => ?_)
  · refine pu_keep k hk hp p ek hCk hH' (fun _ => ?_) (fun q => absurd er_1 q)
    refine pm_punch k hk hp p hM ekm hPH (fun _ _ _ _ _ => ⟨rfl, ⟨p, sp, ik, k, hp, tl, tx, hk, hC, hS, ei, rfl, hH', hT, hM, hKz, eik, ekm, hPH, eT⟩⟩) (fun c' r' hc' hr' e1' e2' => absurd ⟨e1', e2'⟩ (z c' r' hc' hr')) (fun c' r' d' hc' hr' e1' e2' => absurd ⟨e1', e2'⟩ (z c' r' hc' hr'))
  · refine pu_keep k hk hp p ek hCk hH' (fun _ => ?_) (fun q => absurd er_2 q)
    refine pm_punch k hk hp p hM ekm hPH (fun q => absurd ⟨e1, e2⟩ (q c r hc hr)) (fun c' r' hc' hr' e1' e2' _ _ _ _ _ => ⟨rfl, ⟨p, sp, ik, k, hp, tl, tx, hk, hC, hS, ei, rfl, hH', hT, hM, hKz, eik, ekm, hPH, eT⟩⟩) (fun c' r' d' hc' hr' e1' e2' d1' d2' e3' => absurd e3' (z d' d1' d2'))
  · have nb : qNew p c r d ≤ 64 := by
      have := ct_le (qp (qPunch p c r d)) 64
      unfold qNew
      omega
    refine pu_keep k hk hp p ek hCk hH' (fun q => absurd q (ne_nI (by omega))) (fun _ _ _ _ _ _ _ hH'' => ?_)
    refine pm_punch k hk hp p hM ekm hPH (fun q => absurd ⟨e1, e2⟩ (q c r hc hr)) (fun c' r' hc' hr' e1' e2' q => absurd e3 (q d d1 d2)) (fun c' r' d' hc' hr' e1' e2' d1' d2' e3' _ _ _ _ _ _ hM' hPH' => ?_)
    have ec : c' = c := (nI_eq (by omega) (by omega)).mp (e1'.symm.trans e1)
    have er : r' = r := (nI_eq (by omega) (by omega)).mp (e2'.symm.trans e2)
    have ed : d' = d := (nI_eq (by omega) (by omega)).mp (e3'.symm.trans e3)
    subst ec er ed
    exact ⟨rfl, ⟨qPunch p c' r' d', sp, ik, hLen k, hPush k hp p, tl, tx, hLen_le k, hC', hS, ei, rfl, hH'', hT, hM', hKz, eik, rfl, hPH', eT⟩⟩
theorem gop_ink : gOp_ink gR := by
  intro isSaved npat ngoal ncol nmade nmac nks spat sgoal scol smade smac sks hkept hks hmade hmac hcol hpat hgoal tmade tmac tks wlen wpos wlet wcol wrow wnum chs pastMany isKept typed wid hei toldMany spot wrong zz past kz buf stk laid pcs told hR x1 x2 x3
  obtain ⟨p, sp, ik, k, hp, tl, tx, hk, hC, hS, ei, ek, hH, hT, hM, hKz, eik, ekm, hPH, eT⟩ := hR
  refine pu_note k hk hp p ek hC hH (fun hks' hmade' hmac' hcol' hpat' hgoal' hH' hCk => ?_)
  have bw := qw_b hC.1
  have bh := qh_b hC.1
  have bL := fp_L_b (fp_ok_6 hC.1)
  refine pu_dropInk p hC (fun z => ?_) (fun c r hc hr e1 e2 z => ?_) (fun c r d hc hr e1 e2 d1 d2 e3 z => ?_) (fun c r d hc hr e1 e2 d1 d2 e3 z col' hC' => ?_)
  · refine pu_keep k hk hp p ek hCk hH' (fun _ => ?_) (fun q => absurd er_1 q)
    refine pm_ink k hk hp p hM ekm hPH (fun _ _ _ _ _ => ⟨rfl, ⟨p, sp, ik, k, hp, tl, tx, hk, hC, hS, ei, rfl, hH', hT, hM, hKz, eik, ekm, hPH, eT⟩⟩) (fun c' r' hc' hr' e1' e2' => absurd ⟨e1', e2'⟩ (z c' r' hc' hr')) (fun c' r' d' hc' hr' e1' e2' => absurd ⟨e1', e2'⟩ (z c' r' hc' hr')) (fun c' r' d' hc' hr' e1' e2' => absurd ⟨e1', e2'⟩ (z c' r' hc' hr'))
  · refine pu_keep k hk hp p ek hCk hH' (fun _ => ?_) (fun q => absurd er_2 q)
    refine pm_ink k hk hp p hM ekm hPH (fun q => absurd ⟨e1, e2⟩ (q c r hc hr)) (fun c' r' hc' hr' e1' e2' _ _ _ _ _ => ⟨rfl, ⟨p, sp, ik, k, hp, tl, tx, hk, hC, hS, ei, rfl, hH', hT, hM, hKz, eik, ekm, hPH, eT⟩⟩) (fun c' r' d' hc' hr' e1' e2' d1' d2' e3' => absurd e3' (z d' d1' d2')) (fun c' r' d' hc' hr' e1' e2' d1' d2' e3' => absurd e3' (z d' d1' d2'))
  · refine pu_keep k hk hp p ek hCk hH' (fun q => absurd q ne_6) (fun _ _ _ _ _ _ _ hH'' => ?_)
    refine pm_ink k hk hp p hM ekm hPH (fun q => absurd ⟨e1, e2⟩ (q c r hc hr)) (fun c' r' hc' hr' e1' e2' q => absurd e3 (q d d1 d2)) (fun c' r' d' hc' hr' e1' e2' d1' d2' e3' _ _ _ _ _ _ hPH' => ⟨rfl, ⟨p, sp, ik, hLen k, hPush k hp p, tl, tx, hLen_le k, hC, hS, ei, rfl, hH'', hT, hM, hKz, eik, rfl, hPH', eT⟩⟩) (fun c' r' d' hc' hr' e1' e2' d1' d2' e3' q => absurd q ?_)
    have ec : c' = c := (nI_eq (by omega) (by omega)).mp (e1'.symm.trans e1)
    have er : r' = r := (nI_eq (by omega) (by omega)).mp (e2'.symm.trans e2)
    subst ec er
    omega
  · have us := fp_us_lt _ _ c r _ hC.1 hc hr z
    have us' : qu p c r (qT p c r) < 128 := us
    refine pu_keep k hk hp p ek hCk hH' (fun q => absurd q (ne_nI (by omega))) (fun _ _ _ _ _ _ _ hH'' => ?_)
    refine pm_ink k hk hp p hM ekm hPH (fun q => absurd ⟨e1, e2⟩ (q c r hc hr)) (fun c' r' hc' hr' e1' e2' q => absurd e3 (q d d1 d2)) (fun c' r' d' hc' hr' e1' e2' d1' d2' e3' q => absurd q ?_) (fun c' r' d' hc' hr' e1' e2' d1' d2' e3' q _ _ _ _ _ _ hM' hPH' => ?_)
    · have ec : c' = c := (nI_eq (by omega) (by omega)).mp (e1'.symm.trans e1)
      have er : r' = r := (nI_eq (by omega) (by omega)).mp (e2'.symm.trans e2)
      subst ec er
      omega
    · have ec : c' = c := (nI_eq (by omega) (by omega)).mp (e1'.symm.trans e1)
      have er : r' = r := (nI_eq (by omega) (by omega)).mp (e2'.symm.trans e2)
      have ed : d' = d := (nI_eq (by omega) (by omega)).mp (e3'.symm.trans e3)
      subst ec er ed
      exact ⟨rfl, ⟨qInk p (qu p c' r' (qT p c' r')) (nI d'), sp, ik, hLen k, hPush k hp p, tl, tx, hLen_le k, hC', hS, ei, rfl, hH'', hT, hM', hKz, eik, rfl, hPH', eT⟩⟩
theorem gop_mend : gOp_mend gR := by
  intro isSaved npat ngoal ncol nmade nmac nks spat sgoal scol smade smac sks hkept hks hmade hmac hcol hpat hgoal tmade tmac tks wlen wpos wlet wcol wrow wnum chs pastMany isKept typed wid hei toldMany spot wrong zz past kz buf stk laid pcs told hR x1 x2
  obtain ⟨p, sp, ik, k, hp, tl, tx, hk, hC, hS, ei, ek, hH, hT, hM, hKz, eik, ekm, hPH, eT⟩ := hR
  refine pu_note k hk hp p ek hC hH (fun hks' hmade' hmac' hcol' hpat' hgoal' hH' hCk => ?_)
  have bw := qw_b hC.1
  have bh := qh_b hC.1
  have bL := fp_L_b (fp_ok_6 hC.1)
  refine pu_mendTop p hC (fun z => ?_) (fun c r hc hr e1 e2 z => ?_) (fun c r hc hr e1 e2 z pat' col' hC' => ?_)
  · refine pu_keep k hk hp p ek hCk hH' (fun _ => ?_) (fun q => absurd er_1 q)
    refine pm_mend k hk hp p hM ekm hPH (fun _ _ _ _ _ => ⟨rfl, ⟨p, sp, ik, k, hp, tl, tx, hk, hC, hS, ei, rfl, hH', hT, hM, hKz, eik, ekm, hPH, eT⟩⟩) (fun c' r' hc' hr' e1' e2' => absurd ⟨e1', e2'⟩ (z c' r' hc' hr')) (fun c' r' hc' hr' e1' e2' => absurd ⟨e1', e2'⟩ (z c' r' hc' hr'))
  · refine pu_keep k hk hp p ek hCk hH' (fun _ => ?_) (fun q => absurd er_3 q)
    refine pm_mend k hk hp p hM ekm hPH (fun q => absurd ⟨e1, e2⟩ (q c r hc hr)) (fun c' r' hc' hr' e1' e2' _ _ _ _ _ => ⟨rfl, ⟨p, sp, ik, k, hp, tl, tx, hk, hC, hS, ei, rfl, hH', hT, hM, hKz, eik, ekm, hPH, eT⟩⟩) (fun c' r' hc' hr' e1' e2' q => absurd (show (true : Bool) = false from q.symm.trans ?_) (by decide))
    have ec : c' = c := (nI_eq (by omega) (by omega)).mp (e1'.symm.trans e1)
    have er : r' = r := (nI_eq (by omega) (by omega)).mp (e2'.symm.trans e2)
    rw [ec, er]; exact z
  · have us := fp_us_lt _ _ c r 0 hC.1 hc hr (by omega)
    have us' : qu p c r 0 < 128 := us
    refine pu_keep k hk hp p ek hCk hH' (fun q => absurd q (ne_nI (by omega))) (fun _ _ _ _ _ _ _ hH'' => ?_)
    refine pm_mend k hk hp p hM ekm hPH (fun q => absurd ⟨e1, e2⟩ (q c r hc hr)) (fun c' r' hc' hr' e1' e2' q => absurd (show (false : Bool) = true from q.symm.trans ?_) (by decide)) (fun c' r' hc' hr' e1' e2' q _ _ _ _ _ _ hM' hPH' => ?_)
    · have ec : c' = c := (nI_eq (by omega) (by omega)).mp (e1'.symm.trans e1)
      have er : r' = r := (nI_eq (by omega) (by omega)).mp (e2'.symm.trans e2)
      rw [ec, er]; exact z
    · have ec : c' = c := (nI_eq (by omega) (by omega)).mp (e1'.symm.trans e1)
      have er : r' = r := (nI_eq (by omega) (by omega)).mp (e2'.symm.trans e2)
      subst ec er
      exact ⟨rfl, ⟨qMend p (qu p c' r' 0 / 2), sp, ik, hLen k, hPush k hp p, tl, tx, hLen_le k, hC', hS, ei, rfl, hH'', hT, hM', hKz, eik, rfl, hPH', eT⟩⟩
theorem gop_save : gOp_save gR := by
  intro isSaved npat ngoal ncol nmade nmac nks spat sgoal scol smade smac sks hkept hks hmade hmac hcol hpat hgoal tmade tmac tks wlen wpos wlet wcol wrow wnum chs pastMany isKept typed wid hei toldMany spot wrong zz past kz buf stk laid pcs told hR
  obtain ⟨p, sp, ik, k, hp, tl, tx, hk, hC, hS, ei, ek, hH, hT, hM, hKz, eik, ekm, hPH, eT⟩ := hR
  refine pu_becomeLike p hC (fun a b c d e f hC' => ?_)
  have en := hC'.2.1
  refine pm_save p hM (fun kz' hKz' => ⟨en, ⟨p, p, true, k, hp, tl, tx, hk, hC, (fun _ => hC'), rfl, ek, hH, hT, hM, (fun _ => hKz'), rfl, ekm, hPH, eT⟩⟩)
theorem gop_undo : gOp_undo gR := by
  intro isSaved npat ngoal ncol nmade nmac nks spat sgoal scol smade smac sks hkept hks hmade hmac hcol hpat hgoal tmade tmac tks wlen wpos wlet wcol wrow wnum chs pastMany isKept typed wid hei toldMany spot wrong zz past kz buf stk laid pcs told hR
  obtain ⟨p, sp, ik, k, hp, tl, tx, hk, hC, hS, ei, ek, hH, hT, hM, hKz, eik, ekm, hPH, eT⟩ := hR
  refine pu_giveBack k hk hp ek hH (fun z => ?_) (fun m hm a b c d e f hC' => ?_)
  · refine br_t rfl ?_
    refine pm_undo k hk hp ekm hPH (fun _ => ⟨rfl, ⟨p, sp, ik, k, hp, tl, tx, hk, hC, hS, ei, (by rw [z]), hH, hT, hM, hKz, eik, (by rw [z]), hPH, eT⟩⟩) (fun m hm => absurd z (by omega))
  · refine br_f (by decide) ?_
    refine pm_undo k hk hp ekm hPH (fun z => absurd z (by omega)) (fun m' hm' zz' hM' => ?_)
    have em : m' = m := by omega
    subst em
    exact ⟨rfl, ⟨(hp m'), sp, ik, m', hp, tl, tx, (by omega), hC', hS, ei, rfl, (fun j hj => hH j (by omega)), hT, hM', hKz, eik, rfl, (fun j hj => hPH j (by omega)), eT⟩⟩
theorem gop_restore : gOp_restore gR := by
  intro isSaved npat ngoal ncol nmade nmac nks spat sgoal scol smade smac sks hkept hks hmade hmac hcol hpat hgoal tmade tmac tks wlen wpos wlet wcol wrow wnum chs pastMany isKept typed wid hei toldMany spot wrong zz past kz buf stk laid pcs told hR
  obtain ⟨p, sp, ik, k, hp, tl, tx, hk, hC, hS, ei, ek, hH, hT, hM, hKz, eik, ekm, hPH, eT⟩ := hR
  subst ei
  refine pu_brN (fun z => ?_) (fun z => ?_)
  · refine pm_restore k hk hp p sp hM ekm hPH ik eik hKz (fun _ => ⟨rfl, ⟨p, sp, ik, k, hp, tl, tx, hk, hC, hS, rfl, ek, hH, hT, hM, hKz, eik, ekm, hPH, eT⟩⟩) (fun q => absurd (q.symm.trans z) (by decide))
  · refine pu_note k hk hp p ek hC hH (fun hks' hmade' hmac' hcol' hpat' hgoal' hH' hCk => ?_)
    refine pu_becomeLike sp (hS z) (fun a b c d e f hC' => ?_)
    have en := hC'.2.1
    have h6 := fp_ok_6 hC'.1
    refine pu_keep k hk hp p ek hCk hH' (fun q => absurd q (by rw [en]; exact ne_nI (by omega))) (fun _ _ _ _ _ _ _ hH'' => ?_)
    refine pm_restore k hk hp p sp hM ekm hPH ik eik hKz (fun q => absurd (q.symm.trans z) (by decide)) (fun _ zz' past' hM' hPH' => ⟨en, ⟨sp, sp, ik, hLen k, hPush k hp p, tl, tx, hLen_le k, hC', hS, rfl, rfl, hH'', hT, hM', hKz, eik, rfl, hPH', eT⟩⟩)
