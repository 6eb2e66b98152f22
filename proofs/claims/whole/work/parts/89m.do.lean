/-! a work is done -/
def fB (L : Nat) : Nat := if L = 76 then 0 else if L = 82 then 1 else if L = 84 then 2 else 3
def qD (p : Pap) (m : Nat) : Nat := if m = 0 then 2 ^ qn p else m
/-- whether it is done, and the paper then -/
def qDo (p : Pap) (L c r m : Nat) : Bool × Pap :=
  if L = 85 then (if 0 < qn p then (true, qBack p) else (false, p))
  else if L = 80 then (if c < qw p ∧ r < qh p ∧ 1 ≤ qD p m ∧ qD p m ≤ 2 ^ qn p then (true, qPunch p c r (qD p m)) else (false, p))
  else if L = 73 then (if c < qw p ∧ r < qh p then (true, if qT p c r < 2 ^ qn p then qInk p (qu p c r (qT p c r)) (nI m) else p) else (false, p))
  else if 1 < (if fB L < 2 then qw p else qh p) then (true, qFold p (fB L)) else (false, p)
def wOk (L c r m : Nat) : Prop := (L = 76 ∨ L = 82 ∨ L = 84 ∨ L = 66 ∨ L = 85 ∨ L = 80 ∨ L = 73) ∧ (L = 73 → 1 ≤ m ∧ m ≤ 5) ∧ (L = 80 ∨ L = 73 → c < 8 ∧ r < 8 ∧ m ≤ 64)
theorem fB_lt (L : Nat) : fB L < 4 := by
  unfold fB
  split
  · omega
  · split
    · omega
    · split <;> omega
theorem rd_ok {tl : Nat} {tx : Nat → Nat} {i : Nat} (h : (rd tl tx i).1 = 1) : wOk (rd tl tx i).2.2.1 (rd tl tx i).2.2.2.1 (rd tl tx i).2.2.2.2.1 (rd tl tx i).2.2.2.2.2 := by
  unfold rd at h ⊢
  by_cases z : i < tl
  · rw [if_pos z] at h ⊢
    by_cases a : tx i = 76 ∨ tx i = 82 ∨ tx i = 84 ∨ tx i = 66 ∨ tx i = 85
    · rw [if_pos a] at h ⊢
      show wOk (tx i) 0 0 0
      refine ⟨by omega, fun q => by omega, fun q => by omega⟩
    · rw [if_neg a] at h ⊢
      by_cases b : tx i = 80 ∨ tx i = 73
      · rw [if_pos b] at h ⊢
        by_cases c : tD tl tx (i + 1) 0 7
        · rw [if_pos c] at h ⊢
          by_cases d : tD tl tx (i + 2) 0 7
          · rw [if_pos d] at h ⊢
            have c1 := c.2
            have d1 := d.2
            by_cases e : tx i = 80
            · rw [if_pos e] at h ⊢
              by_cases f : i + 3 < tl ∧ tx (i + 3) = 58
              · rw [if_pos f] at h ⊢
                by_cases g : tD tl tx (i + 4) 1 9
                · rw [if_pos g] at h ⊢
                  have g1 := g.2
                  by_cases k : tD tl tx (i + 5) 0 9 ∧ 10 * (tx (i + 4) - 48) + (tx (i + 5) - 48) ≤ 64
                  · rw [if_pos k]
                    exact ⟨Or.inr (Or.inr (Or.inr (Or.inr (Or.inr (Or.inl rfl))))), fun q => absurd (show (80 : Nat) = 73 from q) (by decide), fun _ => ⟨show tx (i + 1) - 48 < 8 by omega, show tx (i + 2) - 48 < 8 by omega, k.2⟩⟩
                  · rw [if_neg k]
                    exact ⟨Or.inr (Or.inr (Or.inr (Or.inr (Or.inr (Or.inl rfl))))), fun q => absurd (show (80 : Nat) = 73 from q) (by decide), fun _ => ⟨show tx (i + 1) - 48 < 8 by omega, show tx (i + 2) - 48 < 8 by omega, show tx (i + 4) - 48 ≤ 64 by omega⟩⟩
                · rw [if_neg g] at h
                  exact absurd (show (0 : Nat) = 1 from h) (by decide)
              · rw [if_neg f]
                exact ⟨Or.inr (Or.inr (Or.inr (Or.inr (Or.inr (Or.inl rfl))))), fun q => absurd (show (80 : Nat) = 73 from q) (by decide), fun _ => ⟨show tx (i + 1) - 48 < 8 by omega, show tx (i + 2) - 48 < 8 by omega, show 0 ≤ 64 by omega⟩⟩
            · rw [if_neg e] at h ⊢
              by_cases f : tD tl tx (i + 3) 1 5
              · rw [if_pos f]
                have f1 := f.2
                exact ⟨Or.inr (Or.inr (Or.inr (Or.inr (Or.inr (Or.inr rfl))))), fun _ => ⟨show 1 ≤ tx (i + 3) - 48 by omega, show tx (i + 3) - 48 ≤ 5 by omega⟩, fun _ => ⟨show tx (i + 1) - 48 < 8 by omega, show tx (i + 2) - 48 < 8 by omega, show tx (i + 3) - 48 ≤ 64 by omega⟩⟩
              · rw [if_neg f] at h
                exact absurd (show (0 : Nat) = 1 from h) (by decide)
          · rw [if_neg d] at h
            exact absurd (show (0 : Nat) = 1 from h) (by decide)
        · rw [if_neg c] at h
          exact absurd (show (0 : Nat) = 1 from h) (by decide)
      · rw [if_neg b] at h
        exact absurd (show (0 : Nat) = 1 from h) (by decide)
  · rw [if_neg z] at h
    exact absurd (show (0 : Nat) = 1 from h) (by decide)
theorem qDo_fold {p : Pap} {L c r m : Nat} (n1 : ¬ L = 85) (n2 : ¬ L = 80) (n3 : ¬ L = 73) (h : qCan p (fB L)) : qDo p L c r m = (true, qFold p (fB L)) := by
  unfold qDo
  rw [if_neg n1, if_neg n2, if_neg n3]
  exact if_pos h
theorem qDo_foldN {p : Pap} {L c r m : Nat} (n1 : ¬ L = 85) (n2 : ¬ L = 80) (n3 : ¬ L = 73) (h : ¬ qCan p (fB L)) : qDo p L c r m = (false, p) := by
  unfold qDo
  rw [if_neg n1, if_neg n2, if_neg n3]
  exact if_neg h
theorem qDo_U {p : Pap} {c r m : Nat} (h : 0 < qn p) : qDo p 85 c r m = (true, qBack p) := by
  unfold qDo
  rw [if_pos rfl, if_pos h]
theorem qDo_UN {p : Pap} {c r m : Nat} (h : qn p = 0) : qDo p 85 c r m = (false, p) := by
  unfold qDo
  rw [if_pos rfl, if_neg (by omega)]
theorem qDo_P {p : Pap} {c r m : Nat} (h : c < qw p ∧ r < qh p ∧ 1 ≤ qD p m ∧ qD p m ≤ 2 ^ qn p) : qDo p 80 c r m = (true, qPunch p c r (qD p m)) := by
  unfold qDo
  rw [if_neg (by decide), if_pos rfl, if_pos h]
theorem qDo_PN {p : Pap} {c r m : Nat} (h : ¬ (c < qw p ∧ r < qh p ∧ 1 ≤ qD p m ∧ qD p m ≤ 2 ^ qn p)) : qDo p 80 c r m = (false, p) := by
  unfold qDo
  rw [if_neg (by decide), if_pos rfl, if_neg h]
theorem qDo_I {p : Pap} {c r m : Nat} (h : c < qw p ∧ r < qh p) : qDo p 73 c r m = (true, if qT p c r < 2 ^ qn p then qInk p (qu p c r (qT p c r)) (nI m) else p) := by
  unfold qDo
  rw [if_neg (by decide), if_neg (by decide), if_pos rfl, if_pos h]
theorem qDo_IN {p : Pap} {c r m : Nat} (h : ¬ (c < qw p ∧ r < qh p)) : qDo p 73 c r m = (false, p) := by
  unfold qDo
  rw [if_neg (by decide), if_neg (by decide), if_pos rfl, if_neg h]
theorem pu_isError {x : Int32} {post : Int32 → Prop} (he : isErr x → post 1) (ho : ¬ isErr x → post 0) : wp_X5_isError x post := by
  intro P14 h14
  by_cases h0 : (0 : Int32) ≤ x
  · exact br_t h0 (h14 ⟨Or.inl rfl, ho (fun q => absurd q.1 (Int32.not_lt.mpr h0))⟩)
  · refine br_f h0 ?_
    by_cases h6 : x = (-6 : Int32)
    · exact br_t h6 (h14 ⟨Or.inl rfl, ho (fun q => q.2 h6)⟩)
    · exact br_f h6 ⟨Or.inr rfl, he ⟨Int32.not_le.mp h0, h6⟩⟩
theorem pu_doWork {npat ngoal : Int64} {ncol : Nat → Int32} {nmade nmac : Int32} {nks : Nat → Int32} {wlet wcol wrow wnum : Int32} {post : Int32 → Int64 → (Nat → Int32) → Int32 → Int32 → (Nat → Int32) → Prop} (p : Pap) (hp : pC npat ngoal ncol nmade nmac nks p) (L c r m : Nat) (ok : wOk L c r m) (hl : wlet = nI L) (hf : L = 80 ∨ L = 73 → wcol = nI c ∧ wrow = nI r ∧ wnum = nI m)
    (h1 : (qDo p L c r m).1 = true → ∀ res pat' col' made' mac' ks', ¬ isErr res → pC pat' ngoal col' made' mac' ks' (qDo p L c r m).2 → post res pat' col' made' mac' ks')
    (h0 : (qDo p L c r m).1 = false → ∀ res, isErr res → post res npat ncol nmade nmac nks) : wp_X5_doWorkRead npat ncol nmade nmac nks wlet wcol wrow wnum post := by
  subst hl
  obtain ⟨oL, oI, oF⟩ := ok
  have bw := qw_b hp.1
  have bh := qh_b hp.1
  have bL := fp_L_b (fp_ok_6 hp.1)
  have L99 : L < 99 := by omega
  have sw : ∀ x : Nat, x < 1000 → nI L = nI x → L = x := fun x hx e => (nI_eq (by omega) (by omega)).mp e
  have fold : ∀ f, f < 4 → fB L = f → ¬ L = 85 → ¬ L = 80 → ¬ L = 73 → wp_X3_makeFold nmade nmac nks (nI f) (fun res a b cc => post res npat ncol a b cc) := fun f hf4 e n1 n2 n3 => by
    refine pu_makeFold p hp (fun q => absurd rfl (q f hf4)) (fun f' hf' e' hc => ?_) (fun f' hf' e' hc made' mac' ks' hC' => ?_)
    · have ef : f = f' := (nI_eq (by omega) (by omega)).mp e'
      subst ef
      have eq := qDo_foldN (p := p) (c := c) (r := r) (m := m) n1 n2 n3 (by rw [e]; exact hc)
      exact h0 (by rw [eq]) _ er_3
    · have ef : f = f' := (nI_eq (by omega) (by omega)).mp e'
      subst ef
      have eq := qDo_fold (p := p) (c := c) (r := r) (m := m) n1 n2 n3 (by rw [e]; exact hc)
      have b2 := fp_L_b (fp_ok_6 hC'.1)
      have b3 : 2 ^ (qn p + 1) ≤ 64 := b2.2
      exact h1 (by rw [eq]) _ _ _ _ _ _ (ne_nI (by omega)) (by rw [eq, e]; exact hC')
  have tL : ∀ x : Nat, x < 1000 → ¬ (x = 76 ∨ x = 82 ∨ x = 84 ∨ x = 66 ∨ x = 85 ∨ x = 80 ∨ x = 73) → ∀ {Q : Prop}, nI L = nI x → Q := fun x hx q Q e => absurd (sw x hx e) (by omega)
  intro P170 h170
  have ink : nI L = (73 : Int32) → P170 := fun e => h170 (by
    have eL : L = 73 := sw 73 (by omega) e
    subst eL
    obtain ⟨e1, e2, e3⟩ := hf (Or.inr rfl)
    obtain ⟨m1, m5⟩ := oI rfl
    subst e1 e2 e3
    obtain ⟨c8, r8, m64⟩ := oF (Or.inr rfl)
    have same : ∀ c' r' : Nat, c' < qw p → r' < qh p → nI c = nI c' → nI r = nI r' → c = c' ∧ r = r' := fun c' r' hc' hr' a b => ⟨(nI_eq (by omega) (by omega)).mp a, (nI_eq (by omega) (by omega)).mp b⟩
    refine pu_dropInk p hp (fun z => ?_) (fun c' r' hc' hr' a b z => ?_) (fun c' r' d hc' hr' a b d1 d2 a3 z => ?_) (fun c' r' d hc' hr' a b d1 d2 a3 z col' hC' => ?_)
    · have eq := qDo_IN (p := p) (c := c) (r := r) (m := m) (fun q => z c r q.1 q.2 ⟨rfl, rfl⟩)
      exact h0 (by rw [eq]) _ er_1
    · exact absurd rfl (z m m1 m5)
    · obtain ⟨x1, x2⟩ := same c' r' hc' hr' a b
      subst x1 x2
      have eq := qDo_I (p := p) (c := c) (r := r) (m := m) ⟨hc', hr'⟩
      exact h1 (by rw [eq]) _ _ _ _ _ _ ne_6 (by rw [eq]; show pC _ _ _ _ _ _ (if qT p c r < 2 ^ qn p then _ else p); rw [if_neg (by omega)]; exact hp)
    · obtain ⟨x1, x2⟩ := same c' r' hc' hr' a b
      subst x1 x2
      have x3 : m = d := (nI_eq (by omega) (by omega)).mp a3
      subst x3
      have eq := qDo_I (p := p) (c := c) (r := r) (m := m) ⟨hc', hr'⟩
      have u1 : qu p c r (qT p c r) < 128 := fp_us_lt _ _ c r _ hp.1 hc' hr' z
      exact h1 (by rw [eq]) _ _ _ _ _ _ (ne_nI (by omega)) (by rw [eq]; show pC _ _ _ _ _ _ (if qT p c r < 2 ^ qn p then _ else p); rw [if_pos z]; exact hC'))
  have punch : nI L = (80 : Int32) → wp_X5_depthRead nmade wnum (fun r_11 => wp_X3_makeHoles npat nmade nmac nks wcol wrow r_11 (fun r_12 npat__13 => post r_12 npat__13 ncol nmade nmac nks)) := fun e => by
    have eL : L = 80 := sw 80 (by omega) e
    subst eL
    obtain ⟨e1, e2, e3⟩ := hf (Or.inl rfl)
    subst e1 e2 e3
    obtain ⟨c8, r8, m64⟩ := oF (Or.inl rfl)
    have qD64 : qD p m ≤ 64 := by unfold qD; split <;> omega
    have go : wp_X3_makeHoles npat nmade nmac nks (nI c) (nI r) (nI (qD p m)) (fun r_12 npat__13 => post r_12 npat__13 ncol nmade nmac nks) := by
      have same : ∀ c' r' : Nat, c' < qw p → r' < qh p → nI c = nI c' → nI r = nI r' → c = c' ∧ r = r' := fun c' r' hc' hr' a b => ⟨(nI_eq (by omega) (by omega)).mp a, (nI_eq (by omega) (by omega)).mp b⟩
      refine pu_makeHoles p hp (fun z => ?_) (fun c' r' hc' hr' a b z => ?_) (fun c' r' d hc' hr' a b d1 d2 a3 pat' hC' => ?_)
      · have eq := qDo_PN (p := p) (c := c) (r := r) (m := m) (fun q => z c r q.1 q.2.1 ⟨rfl, rfl⟩)
        exact h0 (by rw [eq]) _ er_1
      · obtain ⟨x1, x2⟩ := same c' r' hc' hr' a b
        subst x1 x2
        have eq := qDo_PN (p := p) (c := c) (r := r) (m := m) (fun q => z _ q.2.2.1 q.2.2.2 rfl)
        exact h0 (by rw [eq]) _ er_2
      · obtain ⟨x1, x2⟩ := same c' r' hc' hr' a b
        subst x1 x2
        have x3 : qD p m = d := (nI_eq (by omega) (by omega)).mp a3
        subst x3
        have eq := qDo_P (p := p) (c := c) (r := r) (m := m) ⟨hc', hr', d1, d2⟩
        have nb : qNew p c r (qD p m) ≤ 64 := by
          have := ct_le (qp (qPunch p c r (qD p m))) 64
          unfold qNew
          omega
        exact h1 (by rw [eq]) _ _ _ _ _ _ (ne_nI (by omega)) (by rw [eq]; exact hC')
    refine ⟨fun q => ?_, fun q => ?_⟩
    · have m0 : m ≠ 0 := fun y => q (by rw [y]; rfl)
      have : qD p m = m := if_neg m0
      rw [this] at go
      exact go
    · have m0 : m = 0 := (nI_eq (by omega) (by omega)).mp q
      have : qD p m = 2 ^ qn p := if_pos m0
      rw [this] at go
      exact pu_layers (qn p) (fp_ok_6 hp.1) hp.2.1 go
  have back : nI L = (85 : Int32) → wp_X3_takeFoldBack nmade nmac nks (fun r_22 nmade__23 nmac__24 => post r_22 npat ncol nmade__23 nmac__24 nks) := fun e => by
    have eL : L = 85 := sw 85 (by omega) e
    subst eL
    refine pu_takeFoldBack p hp (fun z => ?_) (fun z made' mac' hC' => ?_)
    · have eq := qDo_UN (p := p) (c := c) (r := r) (m := m) z
      exact h0 (by rw [eq]) _ er_3
    · have eq := qDo_U (p := p) (c := c) (r := r) (m := m) z
      have k4 := hp.1.1 (qn p - 1) (by omega)
      exact h1 (by rw [eq]) _ _ _ _ _ _ (ne_nI (by omega)) (by rw [eq]; exact hC')
  refine ⟨fun q => ?_, fun e => ?_, fun e => tL 67 (by omega) (by omega) e, fun e => tL 68 (by omega) (by omega) e, fun e => tL 69 (by omega) (by omega) e, fun e => tL 70 (by omega) (by omega) e, fun e => tL 71 (by omega) (by omega) e, fun e => tL 72 (by omega) (by omega) e, ink, fun e => tL 74 (by omega) (by omega) e, fun e => tL 75 (by omega) (by omega) e, fun e => ?_, fun e => tL 77 (by omega) (by omega) e, fun e => tL 78 (by omega) (by omega) e, fun e => tL 79 (by omega) (by omega) e, punch, fun e => tL 81 (by omega) (by omega) e, fun e => ?_, fun e => tL 83 (by omega) (by omega) e, fun e => ?_, back⟩
  · rw [nI_toInt (by omega)] at q
    exact absurd q (by omega)
  · have eL : L = 66 := sw 66 (by omega) e
    exact fold 3 (by omega) (by rw [eL]; rfl) (by omega) (by omega) (by omega)
  · have eL : L = 76 := sw 76 (by omega) e
    exact fold 0 (by omega) (by rw [eL]; rfl) (by omega) (by omega) (by omega)
  · have eL : L = 82 := sw 82 (by omega) e
    exact fold 1 (by omega) (by rw [eL]; rfl) (by omega) (by omega) (by omega)
  · have eL : L = 84 := sw 84 (by omega) e
    exact fold 2 (by omega) (by rw [eL]; rfl) (by omega) (by omega) (by omega)
theorem pm_doOne {wid hei : Int32} {zz stk laid told : Nat → Int32} {post : Int32 → Int32 → Int32 → (Nat → Int32) → (Nat → Int32) → (Nat → Int32) → Prop} (p : Pap) (hz : pM zz p) (n : Nat) (hn : n < 60) (L c r m : Nat) (ok : wOk L c r m) (hl : told (4 * n) = nI L) (hf : L = 80 ∨ L = 73 → told (4 * n + 1) = nI c ∧ told (4 * n + 2) = nI r ∧ told (4 * n + 3) = nI m)
    (h1 : (qDo p L c r m).1 = true → ∀ wid' hei' zz' stk' laid', pM zz' (qDo p L c r m).2 → post 0 wid' hei' zz' stk' laid')
    (h0 : (qDo p L c r m).1 = false → ∀ res wid' hei' stk' laid', ¬ res = 0 → post res wid' hei' zz stk' laid') : wp_X6_doOne wid hei zz stk laid told (nI (4 * n)) post := by
  obtain ⟨oL, oI, oF⟩ := ok
  have bw := qw_b hz.1
  have bh := qh_b hz.1
  have bL := fp_L_b (fp_ok_6 hz.1)
  have L99 : L < 99 := by omega
  have sw : ∀ x : Nat, x < 1000 → nI L = nI x → L = x := fun x hx e => (nI_eq (by omega) (by omega)).mp e
  unfold wp_X6_doOne
  rw [show nI (4 * n) + (3 : Int32) = nI (4 * n + 3) from nI_add (4 * n) 3, show nI (4 * n) + (1 : Int32) = nI (4 * n + 1) from nI_add (4 * n) 1, show nI (4 * n) + (2 : Int32) = nI (4 * n + 2) from nI_add (4 * n) 2, nI_clamp (n := 4 * n) (by omega), nI_clamp (n := 4 * n + 3) (by omega), nI_clamp (n := 4 * n + 1) (by omega), nI_clamp (n := 4 * n + 2) (by omega), hl]
  refine ⟨vp_in_nI (by omega) (by omega), fun w2 hw2 => ⟨vp_in_nI (by omega) (by omega), fun w3 hw3 => ⟨vp_in_nI (by omega) (by omega), fun w4 hw4 => ⟨vp_in_nI (by omega) (by omega), fun w5 hw5 => ?_⟩⟩⟩⟩
  subst hw5
  intro P190 h190
  refine ⟨fun n85 => ⟨fun n80 => ⟨fun n73 => ?_, fun e => ?_⟩, fun e => ?_⟩, fun e => ?_⟩
  · have m85 : ¬ L = 85 := fun y => n85 (by rw [y]; rfl)
    have m80 : ¬ L = 80 := fun y => n80 (by rw [y]; rfl)
    have m73 : ¬ L = 73 := fun y => n73 (by rw [y]; rfl)
    have fb : ∀ {Q : Int32 → Prop}, Q (nI (fB L)) → wp_X6_foldBy (nI L) Q := fun {Q} q => by
      refine pm_foldBy (fun e => ?_) (fun e => ?_) (fun e => ?_) (fun e => ?_) (fun a1 a2 a3 a4 => ?_)
      · have eL : L = 76 := sw 76 (by omega) e
        rw [eL] at q; exact q
      · have eL : L = 82 := sw 82 (by omega) e
        rw [eL] at q; exact q
      · have eL : L = 84 := sw 84 (by omega) e
        rw [eL] at q; exact q
      · have eL : L = 66 := sw 66 (by omega) e
        rw [eL] at q; exact q
      · have b1 : L ≠ 76 := fun y => a1 (by rw [y]; rfl)
        have b2 : L ≠ 82 := fun y => a2 (by rw [y]; rfl)
        have b3 : L ≠ 84 := fun y => a3 (by rw [y]; rfl)
        have b4 : L ≠ 66 := fun y => a4 (by rw [y]; rfl)
        omega
    have f4 := fB_lt L
    refine fb ?_
    refine pm_whyNotFold p hz (fun q => absurd rfl (q _ f4)) (fun f hf4 e hc wid' hei' stk' laid' => ?_) (fun f hf4 e hc wid' hei' stk' laid' => ?_)
    · have ef : fB L = f := (nI_eq (by omega) (by omega)).mp e
      subst ef
      have eq := qDo_foldN (p := p) (c := c) (r := r) (m := m) m85 m80 m73 hc
      exact ⟨fun _ => h190 _ _ _ _ _ _ (h0 (by rw [eq]) _ _ _ _ _ (by decide)), fun q => absurd q (by decide)⟩
    · have ef : fB L = f := (nI_eq (by omega) (by omega)).mp e
      subst ef
      have eq := qDo_fold (p := p) (c := c) (r := r) (m := m) m85 m80 m73 hc
      refine ⟨fun q => absurd rfl q, fun _ => fb ?_⟩
      refine pm_folds p hz (fB L) f4 hc (fun wid2 hei2 zz2 stk2 laid2 hM' => ?_)
      exact h190 _ _ _ _ _ _ (h1 (by rw [eq]) _ _ _ _ _ (by rw [eq]; exact hM'))
  · have eL : L = 73 := sw 73 (by omega) e
    subst eL
    obtain ⟨e1, e2, e3⟩ := hf (Or.inr rfl)
    obtain ⟨m1, m5⟩ := oI rfl
    obtain ⟨c8, r8, m64⟩ := oF (Or.inr rfl)
    rw [e1] at hw2
    rw [e2] at hw3
    rw [e3] at hw4
    subst hw2 hw3 hw4
    have same : ∀ c' r' : Nat, c' < qw p → r' < qh p → nI c = nI c' → nI r = nI r' → c = c' ∧ r = r' := fun c' r' hc' hr' a b => ⟨(nI_eq (by omega) (by omega)).mp a, (nI_eq (by omega) (by omega)).mp b⟩
    refine pm_whyNotInk p hz (fun z wid' hei' stk' laid' => ?_) (fun c' r' hc' hr' a b z => absurd rfl (z m m1 m5)) (fun c' r' d hc' hr' a b d1 d2 a3 wid' hei' stk' laid' => ?_)
    · have eq := qDo_IN (p := p) (c := c) (r := r) (m := m) (fun q => z c r q.1 q.2 ⟨rfl, rfl⟩)
      exact ⟨fun _ => h190 _ _ _ _ _ _ (h0 (by rw [eq]) _ _ _ _ _ (by decide)), fun q => absurd q (by decide)⟩
    · obtain ⟨x1, x2⟩ := same c' r' hc' hr' a b
      subst x1 x2
      have eq := qDo_I (p := p) (c := c) (r := r) (m := m) ⟨hc', hr'⟩
      refine ⟨fun q => absurd rfl q, fun _ => ?_⟩
      refine pm_inks p hz c r hc' hr' (fun z _ _ _ _ => ?_) (fun z _ _ _ _ _ hM' => ?_)
      · exact h190 _ _ _ _ _ _ (h1 (by rw [eq]) _ _ _ _ _ (by rw [eq]; show pM _ (if qT p c r < 2 ^ qn p then _ else p); rw [if_neg (by omega)]; exact hz))
      · exact h190 _ _ _ _ _ _ (h1 (by rw [eq]) _ _ _ _ _ (by rw [eq]; show pM _ (if qT p c r < 2 ^ qn p then _ else p); rw [if_pos z]; exact hM'))
  · have eL : L = 80 := sw 80 (by omega) e
    subst eL
    obtain ⟨e1, e2, e3⟩ := hf (Or.inl rfl)
    obtain ⟨c8, r8, m64⟩ := oF (Or.inl rfl)
    rw [e1] at hw2
    rw [e2] at hw3
    rw [e3] at hw4
    subst hw2 hw3 hw4
    have same : ∀ c' r' : Nat, c' < qw p → r' < qh p → nI c = nI c' → nI r = nI r' → c = c' ∧ r = r' := fun c' r' hc' hr' a b => ⟨(nI_eq (by omega) (by omega)).mp a, (nI_eq (by omega) (by omega)).mp b⟩
    have qD64 : qD p m ≤ 64 := by unfold qD; split <;> omega
    refine pm_layNow p hz (fun wid' hei' stk' laid' hl' => ?_)
    intro P101 h101
    have go : P101 (nI (qD p m)) := by
      refine h101 _ ?_
      refine pm_whyNotPunch p hz (fun z _ _ _ _ => ?_) (fun c' r' hc' hr' a b z _ _ _ _ => ?_) (fun c' r' d hc' hr' a b d1 d2 a3 _ _ _ _ => ?_)
      · have eq := qDo_PN (p := p) (c := c) (r := r) (m := m) (fun q => z c r q.1 q.2.1 ⟨rfl, rfl⟩)
        intro P127 h127
        exact ⟨fun _ => h127 _ _ _ _ _ (h190 _ _ _ _ _ _ (h0 (by rw [eq]) _ _ _ _ _ (by decide))), fun q => absurd q (by decide)⟩
      · obtain ⟨x1, x2⟩ := same c' r' hc' hr' a b
        subst x1 x2
        have eq := qDo_PN (p := p) (c := c) (r := r) (m := m) (fun q => z _ q.2.2.1 q.2.2.2 rfl)
        intro P127 h127
        exact ⟨fun _ => h127 _ _ _ _ _ (h190 _ _ _ _ _ _ (h0 (by rw [eq]) _ _ _ _ _ (by decide))), fun q => absurd q (by decide)⟩
      · obtain ⟨x1, x2⟩ := same c' r' hc' hr' a b
        subst x1 x2
        have x3 : qD p m = d := (nI_eq (by omega) (by omega)).mp a3
        subst x3
        have eq := qDo_P (p := p) (c := c) (r := r) (m := m) ⟨hc', hr', d1, d2⟩
        intro P127 h127
        refine ⟨fun q => absurd rfl q, fun _ => ?_⟩
        refine pm_makesHoles p hz c r (qD p m) hc' hr' d2 (fun _ _ _ _ _ hM' => ?_)
        exact h127 _ _ _ _ _ (h190 _ _ _ _ _ _ (h1 (by rw [eq]) _ _ _ _ _ (by rw [eq]; exact hM')))
    refine ⟨fun q => ?_, fun q => ?_⟩
    · have m0 : m ≠ 0 := fun y => q (by rw [y]; rfl)
      have : qD p m = m := if_neg m0
      rw [this] at go
      exact go
    · have m0 : m = 0 := (nI_eq (by omega) (by omega)).mp q
      have : qD p m = 2 ^ qn p := if_pos m0
      rw [this] at go
      exact pm_layers (qf p) (qn p) hz.1 hl'.1 hl'.2.1 go
  · have eL : L = 85 := sw 85 (by omega) e
    subst eL
    refine ⟨vp_in_nI (n := 0) (by omega) (by omega), ?_⟩
    rw [pm_cl0, hz.2.1]
    intro P61 h61
    refine ⟨fun q => h61 _ ⟨fun y => absurd rfl y, fun _ => ?_⟩, fun q => h61 _ ⟨fun y => ?_, fun y => absurd y (by decide)⟩⟩
    · have z : 0 < qn p := Nat.pos_of_ne_zero (fun y => q (by rw [y]; rfl))
      have eq := qDo_U (p := p) (c := c) (r := r) (m := m) z
      exact pm_unfolds p hz z (fun zz' hM' => h190 _ _ _ _ _ _ (h1 (by rw [eq]) _ _ _ _ _ (by rw [eq]; exact hM')))
    · have l6 := fp_ok_6 hz.1
      have z : qn p = 0 := (nI_eq (by omega) (by omega)).mp q
      have eq := qDo_UN (p := p) (c := c) (r := r) (m := m) z
      exact h190 _ _ _ _ _ _ (h0 (by rw [eq]) _ _ _ _ _ y)
