/-! all works of a text are done, up to the first that is not possible -/
def qWk (tl : Nat) (tx : Nat → Nat) (n : Nat) (p : Pap) : Bool × Pap := qDo p (rd tl tx (tp tl tx n)).2.2.1 (rd tl tx (tp tl tx n)).2.2.2.1 (rd tl tx (tp tl tx n)).2.2.2.2.1 (rd tl tx (tp tl tx n)).2.2.2.2.2
def qRun (tl : Nat) (tx : Nat → Nat) : Nat → Nat → Pap → Nat × Pap
  | 0, n, p => (n, p)
  | f + 1, n, p => if (qWk tl tx n p).1 = true then qRun tl tx f (n + 1) (qWk tl tx n p).2 else (n, p)
theorem qRun_t {tl : Nat} {tx : Nat → Nat} {f n : Nat} {p : Pap} (h : (qWk tl tx n p).1 = true) : qRun tl tx (f + 1) n p = qRun tl tx f (n + 1) (qWk tl tx n p).2 := if_pos h
theorem qRun_f {tl : Nat} {tx : Nat → Nat} {f n : Nat} {p : Pap} (h : (qWk tl tx n p).1 = false) : qRun tl tx (f + 1) n p = (n, p) := if_neg (by rw [h]; decide)
theorem tk_all {tl : Nat} {tx : Nat → Nat} {M : Nat} (hM : tM tl tx M) (hk : tk tl tx M) {n : Nat} (hn : n ≤ M) : tk tl tx n := by
  by_cases y : n = M
  · rw [y]; exact hk
  · exact (hM.2.1 n (by omega)).1
theorem pm_work {pastMany typed wid hei toldMany spot wrong : Int32} {zz past buf stk laid told : Nat → Int32} {post : Int32 → Int32 → Int32 → Int32 → Int32 → Int32 → Int32 → Int32 → (Nat → Int32) → (Nat → Int32) → (Nat → Int32) → (Nat → Int32) → (Nat → Int32) → Prop}
    {tl : Nat} {tx : Nat → Nat} (hT : tC tl tx typed buf) (k : Nat) (hk : k ≤ 5) (hp : Nat → Pap) (p : Pap) (hz : pM zz p) (hm : pastMany = nI k) (hh : pH past k hp) (M : Nat) (hM : tM tl tx M)
    (hbad : ¬ tk tl tx M → ∀ tm sp wr told', post (-5) pastMany typed wid hei tm sp wr zz past stk laid told')
    (hok : tk tl tx M → ∀ wid' hei' tm sp wr zz' past' stk' laid' told', pM zz' (qRun tl tx (M + 1) 0 p).2 → pH past' (hLen k) (hPush k hp p) → post (nI (qRun tl tx (M + 1) 0 p).1) (nI (hLen k)) 0 wid' hei' tm sp wr zz' past' stk' laid' told') : wp_X6_work pastMany typed wid hei toldMany spot wrong zz past buf stk laid told post := by
  have tb := tM_b hT.1 hM (Nat.le_refl M)
  have hM60 := hM.1
  refine pm_errorPosition hT M hM (fun z tm sp td => ⟨fun q => absurd q (pm_ne6 (by omega)), fun _ => hbad z _ _ _ _⟩) (fun z sp td hq => ⟨fun _ => ?_, fun q => absurd rfl q⟩)
  refine pm_record k hk hp p hz hm hh (fun past' hH' => ?_)
  intro P18 h18
  have key : ∀ f n (p' : Pap) (wid hei : Int32) (zz stk laid : Nat → Int32), n + f = M + 1 → pM zz p' → qRun tl tx f n p' = qRun tl tx (M + 1) 0 p → P18 (nI n) wid hei zz stk laid := by
    intro f
    induction f with
    | zero =>
      intro n p' wid hei zz stk laid hn hz' e
      have g := fun wid' hei' tm sp wr zz' past' stk' laid' told' => hok z wid' hei' tm sp wr zz' past' stk' laid' told'
      rw [← e] at g
      refine h18 _ _ _ _ _ _ ?_
      intro P42 h42
      exact br_t (nI_le (by omega) (by omega)) (h42 _ _ _ _ _ (g _ _ _ _ _ _ _ _ _ _ hz' hH'))
    | succ f ih =>
      intro n p' wid hei zz stk laid hn hz' e
      have kn : tk tl tx n := tk_all hM z (by omega)
      have qn := hq n (by omega)
      refine h18 _ _ _ _ _ _ ?_
      intro P42 h42
      refine br_f (nI_ge (by omega) (by omega)) ?_
      rw [show (4 : Int32) * nI n = nI (4 * n) from pk_mul 4 n]
      refine pm_doOne p' hz' n (by omega) _ _ _ _ (rd_ok (tk_1 kn)) qn.1 qn.2 (fun d wid' hei' zz' stk' laid' hz2 => ⟨fun q => absurd rfl q, fun _ => ?_⟩) (fun d res wid' hei' stk' laid' nr => ⟨fun _ => ?_, fun q => absurd q nr⟩)
      · rw [pu_i1]
        exact ih (n + 1) _ _ _ _ _ _ (by omega) hz2 (by rw [← e]; exact (qRun_t d).symm)
      · have g := fun wid' hei' tm sp wr zz' past' stk' laid' told' => hok z wid' hei' tm sp wr zz' past' stk' laid' told'
        rw [← e, qRun_f (show (qWk tl tx n p').1 = false from d)] at g
        exact h42 _ _ _ _ _ (g _ _ _ _ _ _ _ _ _ _ hz' hH')
  exact key (M + 1) 0 p _ _ _ _ _ (by omega) hz rfl
theorem pu_work {npat ngoal : Int64} {ncol : Nat → Int32} {nmade nmac : Int32} {nks : Nat → Int32} {hkept : Int32} {hks : Nat → Nat → Int32} {hmade hmac : Nat → Int32} {hcol : Nat → Nat → Int32} {hpat hgoal : Nat → Int64} {wlen wpos wlet wcol wrow wnum : Int32} {chs : Nat → Int32} {post : Int32 → Int64 → (Nat → Int32) → Int32 → Int32 → (Nat → Int32) → Int32 → (Nat → Nat → Int32) → (Nat → Int32) → (Nat → Int32) → (Nat → Nat → Int32) → (Nat → Int64) → (Nat → Int64) → Int32 → Int32 → Int32 → Int32 → Int32 → Int32 → Prop}
    {tl : Nat} {tx : Nat → Nat} (hT : tC tl tx wlen chs) (k : Nat) (hk : k ≤ 5) (hp : Nat → Pap) (p : Pap) (ek : hkept = nI k) (hC : pC npat ngoal ncol nmade nmac nks p) (hH : pHC hpat hgoal hcol hmade hmac hks k hp) (M : Nat) (hM : tM tl tx M)
    (hbad : ¬ tk tl tx M → ∀ wp wl wc wr wn, post (-5) npat ncol nmade nmac nks hkept hks hmade hmac hcol hpat hgoal wlen wp wl wc wr wn)
    (hok : tk tl tx M → ∀ pat' col' made' mac' ks' hks' hmade' hmac' hcol' hpat' hgoal' wp wl wc wr wn, pC pat' ngoal col' made' mac' ks' (qRun tl tx (M + 1) 0 p).2 → pHC hpat' hgoal' hcol' hmade' hmac' hks' (hLen k) (hPush k hp p) → post (nI (qRun tl tx (M + 1) 0 p).1) pat' col' made' mac' ks' (nI (hLen k)) hks' hmade' hmac' hcol' hpat' hgoal' 0 wp wl wc wr wn) : wp_X5_work npat ngoal ncol nmade nmac nks hkept hks hmade hmac hcol hpat hgoal wlen wpos wlet wcol wrow wnum chs post := by
  have tb := tM_b hT.1 hM (Nat.le_refl M)
  have hM60 := hM.1
  refine pu_firstError hT M hM (fun z lt cl rw nm => ⟨fun q => absurd q (pm_ne6 (by omega)), fun _ => hbad z _ _ _ _ _⟩) (fun z lt cl rw nm => ⟨fun _ => ?_, fun q => absurd rfl q⟩)
  refine pu_note k hk hp p ek hC hH (fun hks' hmade' hmac' hcol' hpat' hgoal' hH' hCk => ?_)
  intro P36 h36
  have key : ∀ f n (p' : Pap) pat' col' made' mac' ks' wl wc wr wn, n + f = M + 1 → pC pat' ngoal col' made' mac' ks' p' → qRun tl tx f n p' = qRun tl tx (M + 1) 0 p → P36 (nI n) pat' col' made' mac' ks' (nI (tp tl tx n)) wl wc wr wn := by
    intro f
    induction f with
    | zero =>
      intro n p' pat' col' made' mac' ks' wl wc wr wn hn hC' e
      have g := fun pat' col' made' mac' ks' hks' hmade' hmac' hcol' hpat' hgoal' wp wl wc wr wn => hok z pat' col' made' mac' ks' hks' hmade' hmac' hcol' hpat' hgoal' wp wl wc wr wn
      rw [← e] at g
      refine h36 _ _ _ _ _ _ _ _ _ _ _ ?_
      intro P68 h68
      have done : ∀ wp wl wc wr wn, P68 pat' col' made' mac' ks' wp wl wc wr wn := fun wp wl wc wr wn => by
        refine h68 _ _ _ _ _ _ _ _ _ _ ?_
        exact pu_keep k hk hp p ek hCk hH' (fun q => absurd q (ne_nI (by omega))) (fun _ _ _ _ _ _ _ hH2 => g _ _ _ _ _ _ _ _ _ _ _ _ _ _ _ _ hC' hH2)
      refine ⟨fun _ => done _ _ _ _ _, fun q => ?_⟩
      have e2 : tp tl tx n = tl := by rw [show n = M + 1 by omega]; exact tM_end hM z
      have h60 := hT.1
      refine pu_readWork hT (tp tl tx n) (by omega) (fun lt cl rw nm _ => ⟨fun _ => done _ _ _ _ _, fun q2 => absurd ?_ q2⟩)
      have e3 : rd tl tx (tp tl tx n) = (0, tp tl tx n, 0, 0, 0, 0) := by unfold rd; rw [if_neg (by omega)]
      rw [e3]
      rfl
    | succ f ih =>
      intro n p' pat' col' made' mac' ks' wl wc wr wn hn hC' e
      have kn : tk tl tx n := tk_all hM z (by omega)
      have tb2 := tM_b hT.1 hM (show n ≤ M by omega)
      refine h36 _ _ _ _ _ _ _ _ _ _ _ ?_
      intro P68 h68
      refine br_f (nI_ge (a := n) (b := 60) (by omega) (by omega)) ?_
      refine pu_readWork hT (tp tl tx n) (by omega) (fun lt cl rw nm hw => ⟨fun q => absurd q (by rw [tk_1 kn]; decide), fun _ => ?_⟩)
      obtain ⟨e1, e2⟩ := hw (tk_1 kn)
      refine pu_doWork p' hC' _ _ _ _ (rd_ok (tk_1 kn)) e1 e2 (fun d res pat2 col2 made2 mac2 ks2 ne hC2 => pu_isError (fun q => absurd q ne) (fun _ => ⟨fun q => absurd rfl q, fun _ => ?_⟩)) (fun d res er => pu_isError (fun _ => ⟨fun _ => ?_, fun q => absurd q (by decide)⟩) (fun q => absurd er q))
      · rw [pu_i1]
        exact ih (n + 1) _ _ _ _ _ _ _ _ _ _ (by omega) hC2 (by rw [← e]; exact (qRun_t d).symm)
      · have g := fun pat' col' made' mac' ks' hks' hmade' hmac' hcol' hpat' hgoal' wp wl wc wr wn => hok z pat' col' made' mac' ks' hks' hmade' hmac' hcol' hpat' hgoal' wp wl wc wr wn
        rw [← e, qRun_f (show (qWk tl tx n p').1 = false from d)] at g
        refine h68 _ _ _ _ _ _ _ _ _ _ ?_
        exact pu_keep k hk hp p ek hCk hH' (fun q => absurd q (ne_nI (by omega))) (fun _ _ _ _ _ _ _ hH2 => g _ _ _ _ _ _ _ _ _ _ _ _ _ _ _ _ hC' hH2)
  exact key (M + 1) 0 p _ _ _ _ _ _ _ _ _ (by omega) hC rfl
theorem gop_work : gOp_work gR := by
  intro isSaved npat ngoal ncol nmade nmac nks spat sgoal scol smade smac sks hkept hks hmade hmac hcol hpat hgoal tmade tmac tks wlen wpos wlet wcol wrow wnum chs pastMany isKept typed wid hei toldMany spot wrong zz past kz buf stk laid pcs told hR
  obtain ⟨p, sp, ik, k, hp, tl, tx, hk, hC, hS, ei, ek, hH, hT, hM, hKz, eik, ekm, hPH, eT⟩ := hR
  have hTb : tC tl tx typed buf := ⟨hT.1, eT.1, eT.2, hT.2.2.2⟩
  obtain ⟨M, tm⟩ := tM_ex (tl := tl) (tx := tx) hT.1
  refine pu_work hT k hk hp p ek hC hH M tm (fun z _ _ _ _ _ => ?_) (fun z _ _ _ _ _ _ _ _ _ _ _ _ _ _ _ _ hC' hH' => ?_)
  · exact pm_work hTb k hk hp p hM ekm hPH M tm (fun _ _ _ _ _ => ⟨rfl, ⟨p, sp, ik, k, hp, tl, tx, hk, hC, hS, ei, ek, hH, hT, hM, hKz, eik, ekm, hPH, eT⟩⟩) (fun y => absurd y z)
  · exact pm_work hTb k hk hp p hM ekm hPH M tm (fun y => absurd z y) (fun _ _ _ _ _ _ _ _ _ _ _ hM' hPH' => ⟨rfl, ⟨(qRun tl tx (M + 1) 0 p).2, sp, ik, hLen k, hPush k hp p, 0, tx, hLen_le k, hC', hS, ei, rfl, hH', ⟨by omega, rfl, fun i hi => absurd hi (by omega), fun i hi => absurd hi (by omega)⟩, hM', hKz, eik, rfl, hPH', rfl, fun i hi => absurd hi (by omega)⟩⟩)
