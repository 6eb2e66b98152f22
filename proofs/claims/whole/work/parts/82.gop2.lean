theorem gop_layer : gOp_layer gR := by
  intro isSaved npat ngoal ncol nmade nmac nks spat sgoal scol smade smac sks hkept hks hmade hmac hcol hpat hgoal tmade tmac tks wlen wpos wlet wcol wrow wnum chs pastMany isKept typed wid hei toldMany spot wrong zz past kz buf stk laid pcs told hR x1 x2 x3 x4
  obtain ⟨p, sp, ik, k, hp, tl, tx, hk, hC, hS, ei, ek, hH, hT, hM, hKz, eik, ekm, hPH, eT⟩ := hR
  have hC0 := hC
  obtain ⟨ok, hn, hm, hks_, h5, h6, h7⟩ := hC
  have fw := (fp_w_b _ _ ok).2
  have fh := (fp_h_b _ _ ok).2
  have f6 := fp_ok_6 ok
  have bw := qw_b ok
  have bh := qh_b ok
  have bL := fp_L_b (fp_ok_6 ok)
  refine pu_hasLayer _ _ ok hn hm (fun z => ?_) (fun c r i hc hr hi e1 e2 e3 => ?_)
  · refine ⟨fun q => absurd rfl q, fun _ => ?_⟩
    exact pm_layer p hM (fun _ _ _ _ _ => ⟨rfl, ⟨p, sp, ik, k, hp, tl, tx, hk, hC0, hS, ei, ek, hH, hT, hM, hKz, eik, ekm, hPH, eT⟩⟩) (fun c' r' i' hc' hr' hi' e1' e2' e3' => absurd ⟨e1', e2', e3'⟩ (z c' r' i' hc' hr' hi')) (fun c' r' i' t' hc' hr' hi' e1' e2' e3' => absurd ⟨e1', e2', e3'⟩ (z c' r' i' hc' hr' hi'))
  · refine ⟨fun _ => ?_, fun q => absurd q (by decide)⟩
    subst e1 e2 e3
    refine pu_upperSide _ _ ok hn hm hks_ c r i hc hr hi ?_
    have us' : qu p c r i < 128 := fp_us_lt _ _ c r i ok hc hr hi
    have us2 : fp_us (qf p) (qn p) c r i < 128 := us'
    have fin : ∀ (t : Nat) (v : Int32), t < 4 → x4 = nI t → v = (if t = 0 then nI (qu p c r i / 2) else if t = 1 then nI (qu p c r i % 2) else if t = 2 then bI (qp p (qu p c r i / 2)) else qc p (qu p c r i)) → wp_X6_layer wid hei zz stk laid (nI c) (nI r) (nI i) x4 (fun r' wid' hei' stk' laid' => v = r' ∧ gR isSaved npat ngoal ncol nmade nmac nks spat sgoal scol smade smac sks hkept hks hmade hmac hcol hpat hgoal tmade tmac tks wlen wpos wlet wcol wrow wnum chs pastMany isKept typed wid' hei' toldMany spot wrong zz past kz buf stk' laid' pcs told) := by
      intro t v ht e4 ev
      subst e4 ev
      refine pm_layer p hM (fun q => absurd ⟨rfl, rfl, rfl⟩ (q c r i hc hr hi)) (fun c' r' i' hc' hr' hi' e1' e2' e3' z => absurd z (by rw [nI_toInt (by omega)]; omega)) (fun c' r' i' t' hc' hr' hi' e1' e2' e3' ht' e4' _ _ _ _ => ?_)
      have ec : c' = c := (nI_eq (by omega) (by omega)).mp e1'.symm
      have er : r' = r := (nI_eq (by omega) (by omega)).mp e2'.symm
      have ei_ : i' = i := (nI_eq (by omega) (by omega)).mp e3'.symm
      have et : t' = t := (nI_eq (by omega) (by omega)).mp e4'.symm
      subst ec er ei_ et
      exact ⟨rfl, ⟨p, sp, ik, k, hp, tl, tx, hk, hC0, hS, ei, ek, hH, hT, hM, hKz, eik, ekm, hPH, eT⟩⟩
    show ((x4.toInt < 0 ∨ 3 < x4.toInt) → _) ∧ _
    refine ⟨fun z => ?_, fun e => ?_, fun e => ?_, fun e => ?_, fun e => ?_⟩
    · exact pm_layer p hM (fun q => absurd ⟨rfl, rfl, rfl⟩ (q c r i hc hr hi)) (fun _ _ _ _ _ _ _ _ _ _ _ _ _ _ => ⟨rfl, ⟨p, sp, ik, k, hp, tl, tx, hk, hC0, hS, ei, ek, hH, hT, hM, hKz, eik, ekm, hPH, eT⟩⟩) (fun c' r' i' t' hc' hr' hi' e1' e2' e3' ht' e4' => absurd z (by rw [e4', nI_toInt (by omega)]; omega))
    · exact pu_cellOf _ (by omega) (fin 0 _ (by omega) e rfl)
    · refine fin 1 _ (by omega) e ?_
      exact pk_andN (by omega) 1 (by decide)
    · refine pu_cellOf _ (by omega) ?_
      refine pu_hasCell _ (by omega) ?_
      rw [h5 _ (by omega)]
      refine pu_br (fun z => fin 2 _ (by omega) e ?_) (fun z => fin 2 _ (by omega) e ?_)
      · show (0 : Int32) = bI (qp p (qu p c r i / 2))
        rw [show qp p (qu p c r i / 2) = false from z]; rfl
      · show (1 : Int32) = bI (qp p (qu p c r i / 2))
        rw [show qp p (qu p c r i / 2) = true from z]; rfl
    · refine pu_colourOf _ us' ?_
      rw [h6 _ us']
      exact fin 3 _ (by omega) e rfl
theorem gop_seen : gOp_seen gR := by
  intro isSaved npat ngoal ncol nmade nmac nks spat sgoal scol smade smac sks hkept hks hmade hmac hcol hpat hgoal tmade tmac tks wlen wpos wlet wcol wrow wnum chs pastMany isKept typed wid hei toldMany spot wrong zz past kz buf stk laid pcs told hR x1 x2
  obtain ⟨p, sp, ik, k, hp, tl, tx, hk, hC, hS, ei, ek, hH, hT, hM, hKz, eik, ekm, hPH, eT⟩ := hR
  have hC0 := hC
  obtain ⟨ok, hn, hm, hks_, h5, h6, h7⟩ := hC
  have fw := (fp_w_b _ _ ok).2
  have fh := (fp_h_b _ _ ok).2
  have f6 := fp_ok_6 ok
  have bw := qw_b ok
  have bh := qh_b ok
  have bL := fp_L_b (fp_ok_6 ok)
  refine pu_hasField _ _ ok hn hm (fun z => ?_) (fun c r hc hr e1 e2 => ?_)
  · refine ⟨fun q => absurd rfl q, fun _ => ?_⟩
    exact pm_seen p hM (fun _ _ _ _ _ => ⟨rfl, ⟨p, sp, ik, k, hp, tl, tx, hk, hC0, hS, ei, ek, hH, hT, hM, hKz, eik, ekm, hPH, eT⟩⟩) (fun c' r' hc' hr' e1' e2' => absurd ⟨e1', e2'⟩ (z c' r' hc' hr')) (fun c' r' hc' hr' e1' e2' => absurd ⟨e1', e2'⟩ (z c' r' hc' hr'))
  · refine ⟨fun _ => ?_, fun q => absurd q (by decide)⟩
    subst e1 e2
    refine pu_uppermostWhole p hC0 c r hc hr (fun z => ?_) (fun z => ?_)
    · refine ⟨fun q => absurd rfl q, fun _ => ?_⟩
      refine pm_seen p hM (fun q => absurd ⟨rfl, rfl⟩ (q c r hc hr)) (fun _ _ _ _ _ _ _ _ _ _ _ => ⟨rfl, ⟨p, sp, ik, k, hp, tl, tx, hk, hC0, hS, ei, ek, hH, hT, hM, hKz, eik, ekm, hPH, eT⟩⟩) (fun c' r' hc' hr' e1' e2' q => ?_)
      have ec : c' = c := (nI_eq (by omega) (by omega)).mp e1'.symm
      have er : r' = r := (nI_eq (by omega) (by omega)).mp e2'.symm
      subst ec er
      omega
    · have us' : qu p c r (qT p c r) < 128 := fp_us_lt _ _ c r _ ok hc hr z
      refine ⟨fun _ => ?_, fun q => absurd q (pm_ne6 (by omega))⟩
      refine pu_cellOf _ (by omega) ?_
      refine pu_colourOf _ us' ?_
      rw [h6 _ us']
      refine pm_seen p hM (fun q => absurd ⟨rfl, rfl⟩ (q c r hc hr)) (fun c' r' hc' hr' e1' e2' q => ?_) (fun c' r' hc' hr' e1' e2' q _ _ _ _ => ?_)
      · have ec : c' = c := (nI_eq (by omega) (by omega)).mp e1'.symm
        have er : r' = r := (nI_eq (by omega) (by omega)).mp e2'.symm
        subst ec er
        omega
      · have ec : c' = c := (nI_eq (by omega) (by omega)).mp e1'.symm
        have er : r' = r := (nI_eq (by omega) (by omega)).mp e2'.symm
        subst ec er
        refine ⟨?_, ⟨p, sp, ik, k, hp, tl, tx, hk, hC0, hS, ei, ek, hH, hT, hM, hKz, eik, ekm, hPH, eT⟩⟩
        rw [show (10 : Int32) * nI (qu p c' r' (qT p c' r') / 2) = nI (10 * (qu p c' r' (qT p c' r') / 2)) from pk_mul 10 _]
theorem gop_colour : gOp_colour gR := by
  intro isSaved npat ngoal ncol nmade nmac nks spat sgoal scol smade smac sks hkept hks hmade hmac hcol hpat hgoal tmade tmac tks wlen wpos wlet wcol wrow wnum chs pastMany isKept typed wid hei toldMany spot wrong zz past kz buf stk laid pcs told hR x1 x2
  obtain ⟨p, sp, ik, k, hp, tl, tx, hk, hC, hS, ei, ek, hH, hT, hM, hKz, eik, ekm, hPH, eT⟩ := hR
  have hC0 := hC
  obtain ⟨ok, hn, hm, hks_, h5, h6, h7⟩ := hC
  have fw := (fp_w_b _ _ ok).2
  have fh := (fp_h_b _ _ ok).2
  have f6 := fp_ok_6 ok
  refine pu_isCell x1 (fun z => ?_) (fun j hj e => ?_)
  · refine ⟨fun q => absurd rfl q, fun _ => ?_⟩
    exact pm_colour p hM (fun _ => ⟨rfl, ⟨p, sp, ik, k, hp, tl, tx, hk, hC0, hS, ei, ek, hH, hT, hM, hKz, eik, ekm, hPH, eT⟩⟩) (fun j hj e => absurd e (z j hj)) (fun j s hj e => absurd e (z j hj))
  · refine ⟨fun _ => ?_, fun q => absurd q (by decide)⟩
    subst e
    intro P18 hP18
    have bad : (∀ s : Nat, s < 2 → x2 ≠ nI s) → P18 := fun z => hP18 (pm_colour p hM (fun q => absurd rfl (q j hj)) (fun _ _ _ _ => ⟨rfl, ⟨p, sp, ik, k, hp, tl, tx, hk, hC0, hS, ei, ek, hH, hT, hM, hKz, eik, ekm, hPH, eT⟩⟩) (fun j' s hj' e' hs e2 => absurd e2 (z s hs)))
    rcases pu_rng x2 2 (by omega) with z | z | ⟨s, hs, rfl⟩
    · exact br_t z (bad (fun s hs e => by subst e; exact nI_pos (by omega) z))
    · refine br_f (pu_ng (by omega) z) ?_
      refine br_f (fun q => ?_) (bad (fun s hs e => by subst e; exact nI_ge hs (by omega) z))
      have z' := Int32.le_iff_toInt_le.mp z
      have q' := Int32.le_iff_toInt_le.mp q
      have a5 : (1 : Int32).toInt = 1 := by decide
      rw [nI_toInt (by omega)] at z'
      omega
    · refine br_f (nI_pos (by omega)) ?_
      refine br_t (nI_le (b := 1) (by omega) (by omega)) ?_
      rw [show (2 : Int32) * nI j = nI (2 * j) from pk_mul 2 j, nI_add]
      refine pu_colourOf _ (by omega) ?_
      rw [h6 _ (by omega)]
      refine pm_colour p hM (fun q => absurd rfl (q j hj)) (fun j' hj' e' q => absurd rfl (q s hs)) (fun j' s' hj' e' hs' e2' => ?_)
      have ej : j' = j := (nI_eq (by omega) (by omega)).mp e'.symm
      have es : s' = s := (nI_eq (by omega) (by omega)).mp e2'.symm
      subst ej es
      exact ⟨rfl, ⟨p, sp, ik, k, hp, tl, tx, hk, hC0, hS, ei, ek, hH, hT, hM, hKz, eik, ekm, hPH, eT⟩⟩
theorem gop_holes : gOp_holes gR := by
  intro isSaved npat ngoal ncol nmade nmac nks spat sgoal scol smade smac sks hkept hks hmade hmac hcol hpat hgoal tmade tmac tks wlen wpos wlet wcol wrow wnum chs pastMany isKept typed wid hei toldMany spot wrong zz past kz buf stk laid pcs told hR x1
  obtain ⟨p, sp, ik, k, hp, tl, tx, hk, hC, hS, ei, ek, hH, hT, hM, hKz, eik, ekm, hPH, eT⟩ := hR
  have hC0 := hC
  obtain ⟨ok, hn, hm, hks_, h5, h6, h7⟩ := hC
  have fw := (fp_w_b _ _ ok).2
  have fh := (fp_h_b _ _ ok).2
  have f6 := fp_ok_6 ok
  refine pu_isRow x1 (fun z => ?_) (fun r hr e => ?_)
  · refine br_t rfl ?_
    exact pm_holes p hM (fun _ => ⟨rfl, ⟨p, sp, ik, k, hp, tl, tx, hk, hC0, hS, ei, ek, hH, hT, hM, hKz, eik, ekm, hPH, eT⟩⟩) (fun r hr e => absurd e (z r hr))
  · refine br_f (by decide) ?_
    subst e
    refine pu_maskOfRow r hr (fun m hm' hb => ?_)
    have em : m = rowN (fun c => qp p (8 * r + c)) 8 := rowN_of hm' (fun c hc => by rw [hb c hc, h5 _ (by omega)])
    refine pm_holes p hM (fun q => absurd rfl (q r hr)) (fun r' hr' e' => ?_)
    have er : r' = r := (nI_eq (by omega) (by omega)).mp e'.symm
    subst er
    rw [em]
    exact ⟨rfl, ⟨p, sp, ik, k, hp, tl, tx, hk, hC0, hS, ei, ek, hH, hT, hM, hKz, eik, ekm, hPH, eT⟩⟩
theorem pm_target {zz : Nat → Int32} {x : Int32} {post : Int32 → Prop} (p : Pap) (hz : pM zz p) (h0 : (∀ r : Nat, r < 8 → x ≠ nI r) → post (-1)) (h1 : ∀ r : Nat, r < 8 → x = nI r → post (nI (rowN (fun c => qg p (8 * r + c)) 8))) : wp_X6_target zz x post := by
  refine pm_in0 8 (by omega) (by omega) rfl (fun z => ?_) (fun r hr e => ?_)
  · exact br_t rfl (h0 z)
  · refine br_f (by decide) ?_
    have a1 := h1 r hr e
    subst e
    rw [show (199 : Int32) + nI r = nI (199 + r) from nI_add 199 r]
    refine ⟨vp_in_nI (by omega) (by omega), ?_⟩
    obtain ⟨m, hm, e, hb⟩ := hz.2.2.2.2.2 r hr
    rw [nI_clamp (by omega), e, rowN_of (f := fun c => qg p (8 * r + c)) (n := 8) hm hb]
    exact a1
theorem pM_aim {zz : Nat → Int32} {p : Pap} {r m : Nat} (h : pM zz p) (hr : r < 8) (hm : m < 256) : pM (upd zz (199 + r) (nI m)) (qAim p r m) := by
  obtain ⟨ok, h0, h1, h2, h3, h4⟩ := h
  have h6 := fp_ok_6 ok
  refine ⟨ok, ?_, fun i hi => ?_, fun c hc => ?_, fun j hj => ?_, fun s hs => ?_⟩
  · rw [pu_upd_n _ _ (by omega)]; exact h0
  · have hi' : i < qn p := hi
    rw [pu_upd_n _ _ (by omega)]; exact h1 i hi'
  · rw [pu_upd_n _ _ (by omega)]; exact h2 c hc
  · rw [pu_upd_n _ _ (by omega)]; exact h3 j hj
  · rw [pu_upd]
    by_cases z : s = r
    · subst z
      refine ⟨m, hm, by rw [if_pos rfl], fun c hc => ?_⟩
      show _ = if (8 * s + c) / 8 = s then m.testBit ((8 * s + c) % 8) else qg p (8 * s + c)
      rw [if_pos (by omega), show (8 * s + c) % 8 = c by omega]
    · obtain ⟨m', a, b, c⟩ := h4 s hs
      refine ⟨m', a, by rw [if_neg (by omega)]; exact b, fun x hx => ?_⟩
      show _ = if (8 * s + x) / 8 = r then m.testBit ((8 * s + x) % 8) else qg p (8 * s + x)
      rw [if_neg (by omega)]
      exact c x hx
theorem pm_aim {pastMany : Int32} {zz past : Nat → Int32} {x1 x2 : Int32} {post : Int32 → Int32 → (Nat → Int32) → (Nat → Int32) → Prop} (k : Nat) (hk : k ≤ 5) (hp : Nat → Pap) (p : Pap) (hz : pM zz p) (hm : pastMany = nI k) (hh : pH past k hp)
    (h0 : (∀ r : Nat, r < 8 → x1 ≠ nI r) → post (-1) pastMany zz past) (h1 : ∀ r : Nat, r < 8 → x1 = nI r → (∀ m : Nat, m < 256 → x2 ≠ nI m) → post (-2) pastMany zz past)
    (h2 : ∀ r m : Nat, r < 8 → x1 = nI r → m < 256 → x2 = nI m → ∀ zz' past', pM zz' (qAim p r m) → pH past' (hLen k) (hPush k hp p) → post (nI (rowN (fun c => qg p (8 * r + c)) 8)) (nI (hLen k)) zz' past') : wp_X6_aim pastMany zz past x1 x2 post := by
  refine pm_in0 8 (by omega) (by omega) rfl (fun z => ?_) (fun r hr e => ?_)
  · exact ⟨fun q => absurd rfl q, fun _ => h0 z⟩
  · refine ⟨fun _ => ?_, fun q => absurd q (by decide)⟩
    refine pm_in0 256 (by omega) (by omega) rfl (fun z => ?_) (fun m hm' e2 => ?_)
    · exact ⟨fun q => absurd rfl q, fun _ => h1 r hr e z⟩
    · refine ⟨fun _ => ?_, fun q => absurd q (by decide)⟩
      have a2 := h2 r m hr e hm' e2
      refine pm_record k hk hp p hz hm hh (fun past' hh' => ?_)
      subst e e2
      rw [show (199 : Int32) + nI r = nI (199 + r) from nI_add 199 r]
      refine ⟨vp_in_nI (by omega) (by omega), ?_⟩
      obtain ⟨v, hv, ev, hb⟩ := hz.2.2.2.2.2 r hr
      rw [nI_clamp (by omega), ev]
      refine nm_e ⟨vp_in_nI (by omega) (by omega), ?_⟩
      rw [rowN_of (f := fun c => qg p (8 * r + c)) (n := 8) hv hb]
      exact a2 _ _ (pM_aim hz hr hm') hh'
theorem gop_target : gOp_target gR := by
  intro isSaved npat ngoal ncol nmade nmac nks spat sgoal scol smade smac sks hkept hks hmade hmac hcol hpat hgoal tmade tmac tks wlen wpos wlet wcol wrow wnum chs pastMany isKept typed wid hei toldMany spot wrong zz past kz buf stk laid pcs told hR x1
  obtain ⟨p, sp, ik, k, hp, tl, tx, hk, hC, hS, ei, ek, hH, hT, hM, hKz, eik, ekm, hPH, eT⟩ := hR
  have hC0 := hC
  obtain ⟨ok, hn, hm, hks_, h5, h6, h7⟩ := hC
  have fw := (fp_w_b _ _ ok).2
  have fh := (fp_h_b _ _ ok).2
  have f6 := fp_ok_6 ok
  refine pu_isRow x1 (fun z => ?_) (fun r hr e => ?_)
  · refine br_t rfl ?_
    exact pm_target p hM (fun _ => ⟨rfl, ⟨p, sp, ik, k, hp, tl, tx, hk, hC0, hS, ei, ek, hH, hT, hM, hKz, eik, ekm, hPH, eT⟩⟩) (fun r hr e => absurd e (z r hr))
  · refine br_f (by decide) ?_
    subst e
    refine pu_maskOfRow r hr (fun m hm' hb => ?_)
    have em : m = rowN (fun c => qg p (8 * r + c)) 8 := rowN_of hm' (fun c hc => by rw [hb c hc, h7 _ (by omega)])
    refine pm_target p hM (fun q => absurd rfl (q r hr)) (fun r' hr' e' => ?_)
    have er : r' = r := (nI_eq (by omega) (by omega)).mp e'.symm
    subst er
    rw [em]
    exact ⟨rfl, ⟨p, sp, ik, k, hp, tl, tx, hk, hC0, hS, ei, ek, hH, hT, hM, hKz, eik, ekm, hPH, eT⟩⟩
theorem gop_aim : gOp_aim gR := by
  intro isSaved npat ngoal ncol nmade nmac nks spat sgoal scol smade smac sks hkept hks hmade hmac hcol hpat hgoal tmade tmac tks wlen wpos wlet wcol wrow wnum chs pastMany isKept typed wid hei toldMany spot wrong zz past kz buf stk laid pcs told hR x1 x2
  obtain ⟨p, sp, ik, k, hp, tl, tx, hk, hC, hS, ei, ek, hH, hT, hM, hKz, eik, ekm, hPH, eT⟩ := hR
  refine pu_note k hk hp p ek hC hH (fun hks' hmade' hmac' hcol' hpat' hgoal' hH' hCk => ?_)
  refine pu_changeGoal p hC (fun z => ?_) (fun r hr e z => ?_) (fun r m hr e hm' e2 goal' hC' => ?_)
  · refine pu_keep k hk hp p ek hCk hH' (fun _ => ?_) (fun q => absurd er_1 q)
    refine pm_aim k hk hp p hM ekm hPH (fun _ => ⟨rfl, ⟨p, sp, ik, k, hp, tl, tx, hk, hC, hS, ei, rfl, hH', hT, hM, hKz, eik, ekm, hPH, eT⟩⟩) (fun r hr e => absurd e (z r hr)) (fun r m hr e => absurd e (z r hr))
  · refine pu_keep k hk hp p ek hCk hH' (fun _ => ?_) (fun q => absurd er_2 q)
    refine pm_aim k hk hp p hM ekm hPH (fun q => absurd e (q r hr)) (fun _ _ _ _ => ⟨rfl, ⟨p, sp, ik, k, hp, tl, tx, hk, hC, hS, ei, rfl, hH', hT, hM, hKz, eik, ekm, hPH, eT⟩⟩) (fun r' m' hr' e' hm' e2' => absurd e2' (z m' hm'))
  · have lt := rowN_lt (fun c => qg p (8 * r + c)) 8
    refine pu_keep k hk hp p ek hCk hH' (fun q => absurd q (ne_nI (by omega))) (fun _ _ _ _ _ _ _ hH'' => ?_)
    refine pm_aim k hk hp p hM ekm hPH (fun q => absurd e (q r hr)) (fun r' hr' e' q => absurd e2 (q m hm')) (fun r' m' hr' e' hm'' e2' _ _ hM' hPH' => ?_)
    have er : r' = r := (nI_eq (by omega) (by omega)).mp (e'.symm.trans e)
    have em : m' = m := (nI_eq (by omega) (by omega)).mp (e2'.symm.trans e2)
    subst er em
    exact ⟨rfl, ⟨qAim p r' m', sp, ik, hLen k, hPush k hp p, tl, tx, hLen_le k, hC', hS, ei, rfl, hH'', hT, hM', hKz, eik, rfl, hPH', eT⟩⟩
