def wp_X4_addCharacter (wlen : Int32) (chs : Nat → Int32) (x1 : Int32) (post : Int32 → Int32 → (Nat → Int32) → Prop) : Prop :=
  ∀ (P19 : Prop), ((((0 : Int32) = 0 ∨ (0 : Int32) = 1) ∧ (post (0 : Int32) wlen chs)) → P19 ) → ((wlen < 0) → P19) ∧ ((¬ wlen < 0) → ((wlen < (60 : Int32)) → vp_in wlen 60 ∧ (((1 : Int32) = 0 ∨ (1 : Int32) = 1) ∧ (post (1 : Int32) (wlen + (1 : Int32)) (upd chs (wlen).toNatClampNeg x1)))) ∧ ((¬ wlen < (60 : Int32)) → P19))
def wp_X4_currentCharacter (wlen : Int32) (wpos : Int32) (chs : Nat → Int32) (post : Int32 → Prop) : Prop :=
  ∀ (P35 : Int32 → Prop), (∀ (t_1 : Int32), (((t_1 = 0) → post (-1 : Int32)) ∧ ((¬ t_1 = 0) → vp_in wpos 60 ∧ (post (chs (wpos).toNatClampNeg)))) → P35 t_1) → ∀ (P34 : Prop), ((P35 (0 : Int32)) → P34 ) → ((wpos < 0) → P34) ∧ ((¬ wpos < 0) → ((wlen ≤ wpos) → P34) ∧ ((¬ wlen ≤ wpos) → (((60 : Int32) ≤ wpos) → P34) ∧ ((¬ (60 : Int32) ≤ wpos) → P35 (1 : Int32))))
def wp_X4_readDigit (wlen : Int32) (wpos : Int32) (chs : Nat → Int32) (x1 : Int32) (x2 : Int32) (post : Int32 → Int32 → Prop) : Prop :=
  wp_X4_currentCharacter wlen wpos chs (fun r_1 => ∀ w3_2 : Int32, w3_2 = (r_1 - (48 : Int32)) → ∀ (P18 : Prop), ((post (-1 : Int32) wpos) → P18 ) → ((w3_2 < x1) → P18) ∧ ((¬ w3_2 < x1) → ((w3_2 ≤ x2) → post w3_2 (wpos + (1 : Int32))) ∧ ((¬ w3_2 ≤ x2) → P18)))
def wp_X4_readField (wlen : Int32) (wpos : Int32) (wcol : Int32) (wrow : Int32) (chs : Nat → Int32) (post : Int32 → Int32 → Int32 → Int32 → Prop) : Prop :=
  wp_X4_readDigit wlen wpos chs (0 : Int32) (7 : Int32) (fun r_1 wpos__2 => ((¬ r_1 = (-1 : Int32)) → wp_X4_readDigit wlen wpos__2 chs (0 : Int32) (7 : Int32) (fun r_3 wpos__4 => ((r_3 = (-1 : Int32)) → ((0 : Int32) = 0 ∨ (0 : Int32) = 1) ∧ (post (0 : Int32) wpos__4 r_1 r_3)) ∧ ((¬ r_3 = (-1 : Int32)) → ((1 : Int32) = 0 ∨ (1 : Int32) = 1) ∧ (post (1 : Int32) wpos__4 r_1 r_3)))) ∧ ((r_1 = (-1 : Int32)) → ((0 : Int32) = 0 ∨ (0 : Int32) = 1) ∧ (post (0 : Int32) wpos__2 r_1 wrow)))
def wp_X4_readColour (wlen : Int32) (wpos : Int32) (wnum : Int32) (chs : Nat → Int32) (post : Int32 → Int32 → Int32 → Prop) : Prop :=
  wp_X4_readDigit wlen wpos chs (1 : Int32) (5 : Int32) (fun r_1 wpos__2 => ((r_1 = (-1 : Int32)) → ((0 : Int32) = 0 ∨ (0 : Int32) = 1) ∧ (post (0 : Int32) wpos__2 r_1)) ∧ ((¬ r_1 = (-1 : Int32)) → ((1 : Int32) = 0 ∨ (1 : Int32) = 1) ∧ (post (1 : Int32) wpos__2 r_1)))
def wp_X4_readDepth (wlen : Int32) (wpos : Int32) (wnum : Int32) (chs : Nat → Int32) (post : Int32 → Int32 → Int32 → Prop) : Prop :=
  wp_X4_currentCharacter wlen wpos chs (fun r_1 => ((r_1 = (58 : Int32)) → wp_X4_readDigit wlen (wpos + (1 : Int32)) chs (1 : Int32) (9 : Int32) (fun r_2 wpos__3 => ((¬ r_2 = (-1 : Int32)) → wp_X4_readDigit wlen wpos__3 chs (0 : Int32) (if ((64 : Int32) - ((10 : Int32) * r_2)) < (9 : Int32) then ((64 : Int32) - ((10 : Int32) * r_2)) else (9 : Int32)) (fun r_4 wpos__5 => ∀ (P90 : Int32 → Prop), (∀ (t_6 : Int32), (((1 : Int32) = 0 ∨ (1 : Int32) = 1) ∧ (post (1 : Int32) wpos__5 t_6)) → P90 t_6) → ((¬ r_4 = (-1 : Int32)) → P90 (((10 : Int32) * r_2) + r_4)) ∧ ((r_4 = (-1 : Int32)) → P90 r_2))) ∧ ((r_2 = (-1 : Int32)) → ((0 : Int32) = 0 ∨ (0 : Int32) = 1) ∧ (post (0 : Int32) wpos__3 r_2)))) ∧ ((¬ r_1 = (58 : Int32)) → ((1 : Int32) = 0 ∨ (1 : Int32) = 1) ∧ (post (1 : Int32) wpos (0 : Int32))))
def wp_X4_readWork (wlen : Int32) (wpos : Int32) (wlet : Int32) (wcol : Int32) (wrow : Int32) (wnum : Int32) (chs : Nat → Int32) (post : Int32 → Int32 → Int32 → Int32 → Int32 → Int32 → Prop) : Prop :=
  wp_X4_currentCharacter wlen wpos chs (fun r_1 => ∀ (P108 : Prop), ((((1 : Int32) = 0 ∨ (1 : Int32) = 1) ∧ (post (1 : Int32) (wpos + (1 : Int32)) r_1 wcol wrow wnum)) → P108 ) → ∀ (P180 : Prop), ((((0 : Int32) = 0 ∨ (0 : Int32) = 1) ∧ (post (0 : Int32) wpos r_1 wcol wrow wnum)) → P180 ) → ((r_1.toInt < (66) ∨ (85) < r_1.toInt) → P180) ∧ (r_1 = (66 : Int32) → P108) ∧ (r_1 = (67 : Int32) → P180) ∧ (r_1 = (68 : Int32) → P180) ∧ (r_1 = (69 : Int32) → P180) ∧ (r_1 = (70 : Int32) → P180) ∧ (r_1 = (71 : Int32) → P180) ∧ (r_1 = (72 : Int32) → P180) ∧ (r_1 = (73 : Int32) → wp_X4_readField wlen (wpos + (1 : Int32)) wcol wrow chs (fun r_2 wpos__3 wcol__4 wrow__5 => ∀ (P178 : Int32 → Int32 → Prop), (∀ (wpos__6 : Int32) (wnum__7 : Int32), (((0 : Int32) = 0 ∨ (0 : Int32) = 1) ∧ (post (0 : Int32) wpos__6 r_1 wcol__4 wrow__5 wnum__7)) → P178 wpos__6 wnum__7) → ((r_2 = 0) → P178 wpos__3 wnum) ∧ ((¬ r_2 = 0) → wp_X4_readColour wlen wpos__3 wnum chs (fun r_8 wpos__9 wnum__10 => ((r_8 = 0) → P178 wpos__9 wnum__10) ∧ ((¬ r_8 = 0) → ((1 : Int32) = 0 ∨ (1 : Int32) = 1) ∧ (post (1 : Int32) wpos__9 r_1 wcol__4 wrow__5 wnum__10)))))) ∧ (r_1 = (74 : Int32) → P180) ∧ (r_1 = (75 : Int32) → P180) ∧ (r_1 = (76 : Int32) → P108) ∧ (r_1 = (77 : Int32) → P180) ∧ (r_1 = (78 : Int32) → P180) ∧ (r_1 = (79 : Int32) → P180) ∧ (r_1 = (80 : Int32) → wp_X4_readField wlen (wpos + (1 : Int32)) wcol wrow chs (fun r_11 wpos__12 wcol__13 wrow__14 => ∀ (P148 : Int32 → Int32 → Prop), (∀ (wpos__15 : Int32) (wnum__16 : Int32), (((0 : Int32) = 0 ∨ (0 : Int32) = 1) ∧ (post (0 : Int32) wpos__15 r_1 wcol__13 wrow__14 wnum__16)) → P148 wpos__15 wnum__16) → ((r_11 = 0) → P148 wpos__12 wnum) ∧ ((¬ r_11 = 0) → wp_X4_readDepth wlen wpos__12 wnum chs (fun r_17 wpos__18 wnum__19 => ((r_17 = 0) → P148 wpos__18 wnum__19) ∧ ((¬ r_17 = 0) → ((1 : Int32) = 0 ∨ (1 : Int32) = 1) ∧ (post (1 : Int32) wpos__18 r_1 wcol__13 wrow__14 wnum__19)))))) ∧ (r_1 = (81 : Int32) → P180) ∧ (r_1 = (82 : Int32) → P108) ∧ (r_1 = (83 : Int32) → P180) ∧ (r_1 = (84 : Int32) → P108) ∧ (r_1 = (85 : Int32) → P108))
def wp_X4_firstError (wlen : Int32) (wpos : Int32) (wlet : Int32) (wcol : Int32) (wrow : Int32) (wnum : Int32) (chs : Nat → Int32) (post : Int32 → Int32 → Int32 → Int32 → Int32 → Int32 → Prop) : Prop :=
  wp_X4_readWork wlen (0 : Int32) wlet wcol wrow wnum chs (fun r_1 wpos__2 wlet__3 wcol__4 wrow__5 wnum__6 => ∀ (P12 : Int32 → Int32 → Int32 → Int32 → Int32 → Int32 → Int32 → Prop), (∀ (v1_7 : Int32) (v2_8 : Int32) (wpos__9 : Int32) (wlet__10 : Int32) (wcol__11 : Int32) (wrow__12 : Int32) (wnum__13 : Int32), (∀ (P44 : Prop), ((((v1_7 = 0) → post wpos__9 wpos__9 wlet__10 wcol__11 wrow__12 wnum__13) ∧ ((¬ v1_7 = 0) → post (-6 : Int32) wpos__9 wlet__10 wcol__11 wrow__12 wnum__13)) → P44 ) → (((60 : Int32) ≤ v2_8) → P44) ∧ ((¬ (60 : Int32) ≤ v2_8) → ((v1_7 = 0) → P44) ∧ ((¬ v1_7 = 0) → ((wlen ≤ wpos__9) → P44) ∧ ((¬ wlen ≤ wpos__9) → wp_X4_readWork wlen wpos__9 wlet__10 wcol__11 wrow__12 wnum__13 chs (fun r_14 wpos__15 wlet__16 wcol__17 wrow__18 wnum__19 => P12 r_14 (v2_8 + (1 : Int32)) wpos__15 wlet__16 wcol__17 wrow__18 wnum__19))))) → P12 v1_7 v2_8 wpos__9 wlet__10 wcol__11 wrow__12 wnum__13) → P12 r_1 (1 : Int32) wpos__2 wlet__3 wcol__4 wrow__5 wnum__6)
set_option maxRecDepth 20000 in
theorem kwX4_addCharacter_15 : Cond.fieldLink RX4 15 "PunchedFolds$Works" "length" "I" ∈ wsX4_addCharacter := by decide +kernel
set_option maxRecDepth 20000 in
theorem iwX4_addCharacter_X4 : ∀ w ∈ wsX40, w ∈ wsX4_addCharacter := by decide +kernel
set_option maxRecDepth 20000 in
theorem kwX4_addCharacter_9 : Cond.fieldLink RX4 9 "PunchedFolds$Works" "characters" "[I" ∈ wsX4_addCharacter := by decide +kernel
set_option maxHeartbeats 4000000 in
set_option maxRecDepth 100000 in
theorem c_X4_addCharacter (l : Launch) (dC : Nat → ClassId) (dI : Nat → Nat → Nat) (cI cC cS : ClassId) (aT : Nat) (aCH : Nat) (sz : Nat) (wlen : Int32) (wpos : Int32) (wlet : Int32) (wcol : Int32) (wrow : Int32) (wnum : Int32) (chs : Nat → Int32) (x1 : Int32) {post : Int32 → Int32 → (Nat → Int32) → Prop} (hq : wp_X4_addCharacter wlen chs x1 post) : Met l yX4_addCharacter wsX4_addCharacter ({ frames := 0, cells := 0, slots := 0, locals := 0 } : Room) (gn_Pre (dC, dI) cI cC cS [.ref aT, .int x1] sz [(aT, .inr (3, [.ref aCH, .int wlen, .int wpos, .int wlet, .int wcol, .int wrow, .int wnum])), (aCH, .inl (cI, 60, .inl chs))]) (va_Qi (fun (r : Int32) (u : Int32 × (Nat → Int32)) => post r u.1 u.2) (fun (u : Int32 × (Nat → Int32)) t => va_P (dC, dI) vwCl [(aT, .inr (3, [.ref aCH, .int u.1, .int wpos, .int wlet, .int wcol, .int wrow, .int wnum])), (aCH, .inl (cI, 60, .inl u.2))] t.heap ∧ va_K (dC, dI) vwCl (gn_tys cI cC cS) t ∧ va_D (va_A [(aT, .inr (3, [.ref aCH, .int wlen, .int wpos, .int wlet, .int wcol, .int wrow, .int wnum])), (aCH, .inl (cI, 60, .inl chs))] sz) [(aT, .inr (3, [.ref aCH, .int u.1, .int wpos, .int wlet, .int wcol, .int wrow, .int wnum])), (aCH, .inl (cI, 60, .inl u.2))]) (va_A [(aT, .inr (3, [.ref aCH, .int wlen, .int wpos, .int wlet, .int wcol, .int wrow, .int wnum])), (aCH, .inl (cI, 60, .inl chs))] sz)) 0 0 (va_A [(aT, .inr (3, [.ref aCH, .int wlen, .int wpos, .int wlet, .int wcol, .int wrow, .int wnum])), (aCH, .inl (cI, 60, .inl chs))] sz) := by
  unfold wp_X4_addCharacter at hq
  refine Met.ofW (cc := cX4_addCharacter) (maxL := 2) (ret := (some .boolean)) (by decide) rfl ?_
  intro p e s m args below meth c s₁ B hml hv
  obtain ⟨rfl, hsz, hP, hK, hN, hD0⟩ := hv
  have hx := B.exec
  have hb := B.bytes
  have hr := B.returns
  have hts := atoms_spec (ws := wsX4_addCharacter) B.pre
  have hown : s.vm.findClass RX4 = some m.cls := findClass_of_methodNamed B.named
  have hlocks := B.notSynchronized
  subst hsz
  have hD := hD0.self (sz := s.heap.size)
  generalize hAe : va_A [(aT, .inr (3, [.ref aCH, .int wlen, .int wpos, .int wlet, .int wcol, .int wrow, .int wnum])), (aCH, .inl (cI, 60, .inl chs))] s.heap.size = A at hD ⊢
  have hA : ∀ q : Nat, s.heap.size ≤ q → A q := fun q h => by rw [← hAe]; exact Or.inr h
  have hS : va_S A s.heap s.heap [] := va_S.rf
  have hl := lv_entry ([.ref aT, .int x1] : List Value) (n := 2) (Nat.le_of_ble_eq_true rfl)
  rw [lg_entry_eq]
  generalize (lg_sl ([.ref aT, .int x1] : List Value) ++ List.replicate (2 - (lg_sl ([.ref aT, .int x1] : List Value)).length) Slot.unset).toArray = ls at hl ⊢
  have hl : lv_has ls 2 [(0, .ref aT), (1, .int x1)] := hl
  refine gn_Q (hret := fun Q => ∀ (pc : Nat) (ls : Array Slot) (H : Heap) (locs : List Loc) (r : Int32) (m_wlen : Int32) (m_chs : Nat → Int32), decode cX4_addCharacter pc = .ok (.ireturn, 1) → va_P (dC, dI) vwCl [(aT, .inr (3, [.ref aCH, .int m_wlen, .int wpos, .int wlet, .int wcol, .int wrow, .int wnum])), (aCH, .inl (cI, 60, .inl m_chs))] H → va_D A [(aT, .inr (3, [.ref aCH, .int m_wlen, .int wpos, .int wlet, .int wcol, .int wrow, .int wnum])), (aCH, .inl (cI, 60, .inl m_chs))] → va_S A s.heap H locs → (r = 0 ∨ r = 1) → post r m_wlen m_chs → W p l e ({ frames := 0, cells := 0, slots := 0, locals := 0 } : Room) s m ([.ref aT, .int x1] : List Value).toArray below meth c H locs 0 0 Q (F0 m pc ls [.int r])) (fun Q hret => ?_) ?_
  rotate_left
  · intro pc ls H locs r m_wlen m_chs hdg hP hD hS hz hpost
    exact W.zret (v := r) hx hb hr (gn_nz hz) (fun t ht hW => ⟨⟨r, (m_wlen, m_chs), rfl, hpost, by rw [ht]; exact hP, va_K.moved hW.alike hK, hD⟩, hS.F ht⟩) hS.2.2 hdg
  refine lv_aload_n hx hb dX4_addCharacter_0 rfl (lv_at hl 0 rfl) ?_
  refine va_get (D := (dC, dI)) (ci := 3) (v := .int wlen) (C := RX4) (T := TX4) (N := 7) hx hb hts iwX4_addCharacter_X4 hown hK hP 0 rfl rfl 1 (by decide) (hts _ kwX4_addCharacter_15) (fun _ h9 => h9) rfl dX4_addCharacter_1 ?_
  have hq := hq (∀ (H : Heap) (locs : List Loc) (ls : Array Slot), va_P (dC, dI) vwCl [(aT, .inr (3, [.ref aCH, .int wlen, .int wpos, .int wlet, .int wcol, .int wrow, .int wnum])), (aCH, .inl (cI, 60, .inl chs))] H → va_D A [(aT, .inr (3, [.ref aCH, .int wlen, .int wpos, .int wlet, .int wcol, .int wrow, .int wnum])), (aCH, .inl (cI, 60, .inl chs))] → va_S A s.heap H locs → lv_has ls 2 [] → W p l e ({ frames := 0, cells := 0, slots := 0, locals := 0 } : Room) s m ([.ref aT, .int x1] : List Value).toArray below meth c H locs 0 0 Q (F0 m 19 ls [])) (by
    intro  hq H locs ls hP hD hS hl
    refine lv_iconst (v := 0) hx hb dX4_addCharacter_19 (by decide) ?_
    have hz := hq.1
    have hq := hq.2
    exact hret _ _ _ _ _ _ _ dX4_addCharacter_20 hP hD hS hz hq)
  refine lv_if_lt (tgt := 19) hx hb dX4_addCharacter_4 (by decide) (fun hc => ?_) (fun hc => ?_)
  · have hq := hq.1 hc
    exact hq _ _ _ hP hD hS (lv_sub hl [] rfl)
  · have hq := hq.2 hc
    refine lv_aload_n hx hb dX4_addCharacter_7 rfl (lv_at hl 0 rfl) ?_
    refine va_get (D := (dC, dI)) (ci := 3) (v := .int wlen) (C := RX4) (T := TX4) (N := 7) hx hb hts iwX4_addCharacter_X4 hown hK hP 0 rfl rfl 1 (by decide) (hts _ kwX4_addCharacter_15) (fun _ h9 => h9) rfl dX4_addCharacter_8 ?_
    refine lv_aload_n hx hb dX4_addCharacter_11 rfl (lv_at hl 0 rfl) ?_
    refine va_get (D := (dC, dI)) (ci := 3) (v := .ref aCH) (C := RX4) (T := TX4) (N := 7) hx hb hts iwX4_addCharacter_X4 hown hK hP 0 rfl rfl 0 (by decide) (hts _ kwX4_addCharacter_9) (fun _ h9 => h9) rfl dX4_addCharacter_12 ?_
    refine va_alen hx hb hK hP 1 0 rfl rfl (v := 60) rfl dX4_addCharacter_15 ?_
    refine lv_icmp_lt (tgt := 21) hx hb dX4_addCharacter_16 (by decide) (fun hc => ?_) (fun hc => ?_)
    · have hq := hq.1 hc
      refine lv_aload_n hx hb dX4_addCharacter_21 rfl (lv_at hl 0 rfl) ?_
      refine va_get (D := (dC, dI)) (ci := 3) (v := .ref aCH) (C := RX4) (T := TX4) (N := 7) hx hb hts iwX4_addCharacter_X4 hown hK hP 0 rfl rfl 0 (by decide) (hts _ kwX4_addCharacter_9) (fun _ h9 => h9) rfl dX4_addCharacter_22 ?_
      refine lv_aload_n hx hb dX4_addCharacter_25 rfl (lv_at hl 0 rfl) ?_
      refine va_get (D := (dC, dI)) (ci := 3) (v := .int wlen) (C := RX4) (T := TX4) (N := 7) hx hb hts iwX4_addCharacter_X4 hown hK hP 0 rfl rfl 1 (by decide) (hts _ kwX4_addCharacter_15) (fun _ h9 => h9) rfl dX4_addCharacter_26 ?_
      refine lv_iload_n hx hb dX4_addCharacter_29 rfl (lv_at hl 1 rfl) ?_
      have hin := hq.1
      have hq := hq.2
      refine va_iast hx hb hK hP hD hS 1 0 rfl rfl hin dX4_addCharacter_30 (fun H locs hP hD hS => ?_)
      have hP : va_P (dC, dI) vwCl [(aT, .inr (3, [.ref aCH, .int wlen, .int wpos, .int wlet, .int wcol, .int wrow, .int wnum])), (aCH, .inl (cI, 60, .inl (upd chs (wlen).toNatClampNeg x1)))] H := hP
      have hD : va_D A [(aT, .inr (3, [.ref aCH, .int wlen, .int wpos, .int wlet, .int wcol, .int wrow, .int wnum])), (aCH, .inl (cI, 60, .inl (upd chs (wlen).toNatClampNeg x1)))] := hD
      refine lv_aload_n hx hb dX4_addCharacter_31 rfl (lv_at hl 0 rfl) ?_
      refine lv_dup hx hb dX4_addCharacter_32 rfl ?_
      refine va_get (D := (dC, dI)) (ci := 3) (v := .int wlen) (C := RX4) (T := TX4) (N := 7) hx hb hts iwX4_addCharacter_X4 hown hK hP 0 rfl rfl 1 (by decide) (hts _ kwX4_addCharacter_15) (fun _ h9 => h9) rfl dX4_addCharacter_33 ?_
      refine lv_iconst (v := 1) hx hb dX4_addCharacter_36 (by decide) ?_
      refine lv_iadd hx hb dX4_addCharacter_37 ?_
      refine va_put (D := (dC, dI)) (ci := 3) (v := .int (wlen + (1 : Int32))) (ty := .int) (C := RX4) (T := TX4) (N := 7) hx hb hts iwX4_addCharacter_X4 tyX4 tyX4_ok nmX4 hown hK hP hD hS 0 rfl rfl 1 (by decide) (hts _ kwX4_addCharacter_15) (fun _ h9 => h9) rfl (by decide +kernel) rfl rfl (Nat.le_of_ble_eq_true rfl) dX4_addCharacter_38 (fun H locs hP hD hS => ?_)
      have hP : va_P (dC, dI) vwCl [(aT, .inr (3, [.ref aCH, .int (wlen + (1 : Int32)), .int wpos, .int wlet, .int wcol, .int wrow, .int wnum])), (aCH, .inl (cI, 60, .inl (upd chs (wlen).toNatClampNeg x1)))] H := hP
      have hD : va_D A [(aT, .inr (3, [.ref aCH, .int (wlen + (1 : Int32)), .int wpos, .int wlet, .int wcol, .int wrow, .int wnum])), (aCH, .inl (cI, 60, .inl (upd chs (wlen).toNatClampNeg x1)))] := hD
      refine lv_iconst (v := 1) hx hb dX4_addCharacter_41 (by decide) ?_
      have hz := hq.1
      have hq := hq.2
      exact hret _ _ _ _ _ _ _ dX4_addCharacter_42 hP hD hS hz hq
    · have hq := hq.2 hc
      exact hq _ _ _ hP hD hS (lv_sub hl [] rfl)
set_option maxRecDepth 20000 in
theorem kwX4_currentCharacter_19 : Cond.fieldLink RX4 19 "PunchedFolds$Works" "position" "I" ∈ wsX4_currentCharacter := by decide +kernel
set_option maxRecDepth 20000 in
theorem iwX4_currentCharacter_X4 : ∀ w ∈ wsX40, w ∈ wsX4_currentCharacter := by decide +kernel
set_option maxRecDepth 20000 in
theorem kwX4_currentCharacter_9 : Cond.fieldLink RX4 9 "PunchedFolds$Works" "characters" "[I" ∈ wsX4_currentCharacter := by decide +kernel
set_option maxRecDepth 20000 in
theorem kwX4_currentCharacter_15 : Cond.fieldLink RX4 15 "PunchedFolds$Works" "length" "I" ∈ wsX4_currentCharacter := by decide +kernel
set_option maxHeartbeats 4000000 in
set_option maxRecDepth 100000 in
theorem c_X4_currentCharacter (l : Launch) (dC : Nat → ClassId) (dI : Nat → Nat → Nat) (cI cC cS : ClassId) (aT : Nat) (aCH : Nat) (sz : Nat) (wlen : Int32) (wpos : Int32) (wlet : Int32) (wcol : Int32) (wrow : Int32) (wnum : Int32) (chs : Nat → Int32) {post : Int32 → Prop} (hq : wp_X4_currentCharacter wlen wpos chs post) : Met l yX4_currentCharacter wsX4_currentCharacter ({ frames := 0, cells := 0, slots := 0, locals := 0 } : Room) (gn_Pre (dC, dI) cI cC cS [.ref aT] sz [(aT, .inr (3, [.ref aCH, .int wlen, .int wpos, .int wlet, .int wcol, .int wrow, .int wnum])), (aCH, .inl (cI, 60, .inl chs))]) (va_Qi (fun (r : Int32) (u : Unit) => post r) (fun (u : Unit) t => va_P (dC, dI) vwCl [(aT, .inr (3, [.ref aCH, .int wlen, .int wpos, .int wlet, .int wcol, .int wrow, .int wnum])), (aCH, .inl (cI, 60, .inl chs))] t.heap ∧ va_K (dC, dI) vwCl (gn_tys cI cC cS) t ∧ va_D (va_A [(aT, .inr (3, [.ref aCH, .int wlen, .int wpos, .int wlet, .int wcol, .int wrow, .int wnum])), (aCH, .inl (cI, 60, .inl chs))] sz) [(aT, .inr (3, [.ref aCH, .int wlen, .int wpos, .int wlet, .int wcol, .int wrow, .int wnum])), (aCH, .inl (cI, 60, .inl chs))]) (va_A [(aT, .inr (3, [.ref aCH, .int wlen, .int wpos, .int wlet, .int wcol, .int wrow, .int wnum])), (aCH, .inl (cI, 60, .inl chs))] sz)) 0 0 (va_A [(aT, .inr (3, [.ref aCH, .int wlen, .int wpos, .int wlet, .int wcol, .int wrow, .int wnum])), (aCH, .inl (cI, 60, .inl chs))] sz) := by
  unfold wp_X4_currentCharacter at hq
  refine Met.ofW (cc := cX4_currentCharacter) (maxL := 2) (ret := (some .int)) (by decide) rfl ?_
  intro p e s m args below meth c s₁ B hml hv
  obtain ⟨rfl, hsz, hP, hK, hN, hD0⟩ := hv
  have hx := B.exec
  have hb := B.bytes
  have hr := B.returns
  have hts := atoms_spec (ws := wsX4_currentCharacter) B.pre
  have hown : s.vm.findClass RX4 = some m.cls := findClass_of_methodNamed B.named
  have hlocks := B.notSynchronized
  subst hsz
  have hD := hD0.self (sz := s.heap.size)
  generalize hAe : va_A [(aT, .inr (3, [.ref aCH, .int wlen, .int wpos, .int wlet, .int wcol, .int wrow, .int wnum])), (aCH, .inl (cI, 60, .inl chs))] s.heap.size = A at hD ⊢
  have hA : ∀ q : Nat, s.heap.size ≤ q → A q := fun q h => by rw [← hAe]; exact Or.inr h
  have hS : va_S A s.heap s.heap [] := va_S.rf
  have hl := lv_entry ([.ref aT] : List Value) (n := 2) (Nat.le_of_ble_eq_true rfl)
  rw [lg_entry_eq]
  generalize (lg_sl ([.ref aT] : List Value) ++ List.replicate (2 - (lg_sl ([.ref aT] : List Value)).length) Slot.unset).toArray = ls at hl ⊢
  have hl : lv_has ls 2 [(0, .ref aT)] := hl
  refine gn_Q (hret := fun Q => ∀ (pc : Nat) (ls : Array Slot) (H : Heap) (locs : List Loc) (r : Int32) , decode cX4_currentCharacter pc = .ok (.ireturn, 1) → va_P (dC, dI) vwCl [(aT, .inr (3, [.ref aCH, .int wlen, .int wpos, .int wlet, .int wcol, .int wrow, .int wnum])), (aCH, .inl (cI, 60, .inl chs))] H → va_D A [(aT, .inr (3, [.ref aCH, .int wlen, .int wpos, .int wlet, .int wcol, .int wrow, .int wnum])), (aCH, .inl (cI, 60, .inl chs))] → va_S A s.heap H locs → post r → W p l e ({ frames := 0, cells := 0, slots := 0, locals := 0 } : Room) s m ([.ref aT] : List Value).toArray below meth c H locs 0 0 Q (F0 m pc ls [.int r])) (fun Q hret => ?_) ?_
  rotate_left
  · intro pc ls H locs r hdg hP hD hS hpost
    exact W.iret (v := r) hx hb hr (fun t ht hW => ⟨⟨r, (), rfl, hpost, by rw [ht]; exact hP, va_K.moved hW.alike hK, hD⟩, hS.F ht⟩) hS.2.2 hdg
  refine lv_aload_n hx hb dX4_currentCharacter_0 rfl (lv_at hl 0 rfl) ?_
  refine va_get (D := (dC, dI)) (ci := 3) (v := .int wpos) (C := RX4) (T := TX4) (N := 7) hx hb hts iwX4_currentCharacter_X4 hown hK hP 0 rfl rfl 2 (by decide) (hts _ kwX4_currentCharacter_19) (fun _ h9 => h9) rfl dX4_currentCharacter_1 ?_
  have hq := hq (fun (t_1 : Int32) => ∀ (H : Heap) (locs : List Loc) (ls : Array Slot), va_P (dC, dI) vwCl [(aT, .inr (3, [.ref aCH, .int wlen, .int wpos, .int wlet, .int wcol, .int wrow, .int wnum])), (aCH, .inl (cI, 60, .inl chs))] H → va_D A [(aT, .inr (3, [.ref aCH, .int wlen, .int wpos, .int wlet, .int wcol, .int wrow, .int wnum])), (aCH, .inl (cI, 60, .inl chs))] → va_S A s.heap H locs → lv_has ls 2 [(0, .ref aT)] → W p l e ({ frames := 0, cells := 0, slots := 0, locals := 0 } : Room) s m ([.ref aT] : List Value).toArray below meth c H locs 0 0 Q (F0 m 35 ls [.int t_1])) (by
    intro t_1 hq H locs ls hP hD hS hl
    refine lv_istore_n (lv' := [(1, .int t_1), (0, .ref aT)]) hx hb dX4_currentCharacter_35 rfl hl (by decide) rfl (fun ls hl => ?_)
    refine lv_iload_n hx hb dX4_currentCharacter_36 rfl (lv_at hl 0 rfl) ?_
    refine lv_if_eq (tgt := 52) hx hb dX4_currentCharacter_37 (by decide) (fun hc => ?_) (fun hc => ?_)
    · have hq := hq.1 hc
      refine lv_iconst (v := -1) hx hb dX4_currentCharacter_52 (by decide) ?_
      exact hret _ _ _ _ _ dX4_currentCharacter_53 hP hD hS hq
    · have hq := hq.2 hc
      refine lv_aload_n hx hb dX4_currentCharacter_40 rfl (lv_at hl 1 rfl) ?_
      refine va_get (D := (dC, dI)) (ci := 3) (v := .ref aCH) (C := RX4) (T := TX4) (N := 7) hx hb hts iwX4_currentCharacter_X4 hown hK hP 0 rfl rfl 0 (by decide) (hts _ kwX4_currentCharacter_9) (fun _ h9 => h9) rfl dX4_currentCharacter_41 ?_
      refine lv_aload_n hx hb dX4_currentCharacter_44 rfl (lv_at hl 1 rfl) ?_
      refine va_get (D := (dC, dI)) (ci := 3) (v := .int wpos) (C := RX4) (T := TX4) (N := 7) hx hb hts iwX4_currentCharacter_X4 hown hK hP 0 rfl rfl 2 (by decide) (hts _ kwX4_currentCharacter_19) (fun _ h9 => h9) rfl dX4_currentCharacter_45 ?_
      have hin := hq.1
      have hq := hq.2
      refine va_iald hx hb hK hP 1 0 rfl rfl hin dX4_currentCharacter_48 ?_
      refine lv_goto (tgt := 53) hx hb dX4_currentCharacter_49 (by decide) ?_
      exact hret _ _ _ _ _ dX4_currentCharacter_53 hP hD hS hq)
  have hq := hq (∀ (H : Heap) (locs : List Loc) (ls : Array Slot), va_P (dC, dI) vwCl [(aT, .inr (3, [.ref aCH, .int wlen, .int wpos, .int wlet, .int wcol, .int wrow, .int wnum])), (aCH, .inl (cI, 60, .inl chs))] H → va_D A [(aT, .inr (3, [.ref aCH, .int wlen, .int wpos, .int wlet, .int wcol, .int wrow, .int wnum])), (aCH, .inl (cI, 60, .inl chs))] → va_S A s.heap H locs → lv_has ls 2 [(0, .ref aT)] → W p l e ({ frames := 0, cells := 0, slots := 0, locals := 0 } : Room) s m ([.ref aT] : List Value).toArray below meth c H locs 0 0 Q (F0 m 34 ls [])) (by
    intro  hq H locs ls hP hD hS hl
    refine lv_iconst (v := 0) hx hb dX4_currentCharacter_34 (by decide) ?_
    exact hq _ _ _ hP hD hS (lv_sub hl [0] rfl))
  refine lv_if_lt (tgt := 34) hx hb dX4_currentCharacter_4 (by decide) (fun hc => ?_) (fun hc => ?_)
  · have hq := hq.1 hc
    exact hq _ _ _ hP hD hS (lv_sub hl [0] rfl)
  · have hq := hq.2 hc
    refine lv_aload_n hx hb dX4_currentCharacter_7 rfl (lv_at hl 0 rfl) ?_
    refine va_get (D := (dC, dI)) (ci := 3) (v := .int wpos) (C := RX4) (T := TX4) (N := 7) hx hb hts iwX4_currentCharacter_X4 hown hK hP 0 rfl rfl 2 (by decide) (hts _ kwX4_currentCharacter_19) (fun _ h9 => h9) rfl dX4_currentCharacter_8 ?_
    refine lv_aload_n hx hb dX4_currentCharacter_11 rfl (lv_at hl 0 rfl) ?_
    refine va_get (D := (dC, dI)) (ci := 3) (v := .int wlen) (C := RX4) (T := TX4) (N := 7) hx hb hts iwX4_currentCharacter_X4 hown hK hP 0 rfl rfl 1 (by decide) (hts _ kwX4_currentCharacter_15) (fun _ h9 => h9) rfl dX4_currentCharacter_12 ?_
    refine lv_icmp_ge (tgt := 34) hx hb dX4_currentCharacter_15 (by decide) (fun hc => ?_) (fun hc => ?_)
    · have hq := hq.1 hc
      exact hq _ _ _ hP hD hS (lv_sub hl [0] rfl)
    · have hq := hq.2 hc
      refine lv_aload_n hx hb dX4_currentCharacter_18 rfl (lv_at hl 0 rfl) ?_
      refine va_get (D := (dC, dI)) (ci := 3) (v := .int wpos) (C := RX4) (T := TX4) (N := 7) hx hb hts iwX4_currentCharacter_X4 hown hK hP 0 rfl rfl 2 (by decide) (hts _ kwX4_currentCharacter_19) (fun _ h9 => h9) rfl dX4_currentCharacter_19 ?_
      refine lv_aload_n hx hb dX4_currentCharacter_22 rfl (lv_at hl 0 rfl) ?_
      refine va_get (D := (dC, dI)) (ci := 3) (v := .ref aCH) (C := RX4) (T := TX4) (N := 7) hx hb hts iwX4_currentCharacter_X4 hown hK hP 0 rfl rfl 0 (by decide) (hts _ kwX4_currentCharacter_9) (fun _ h9 => h9) rfl dX4_currentCharacter_23 ?_
      refine va_alen hx hb hK hP 1 0 rfl rfl (v := 60) rfl dX4_currentCharacter_26 ?_
      refine lv_icmp_ge (tgt := 34) hx hb dX4_currentCharacter_27 (by decide) (fun hc => ?_) (fun hc => ?_)
      · have hq := hq.1 hc
        exact hq _ _ _ hP hD hS (lv_sub hl [0] rfl)
      · have hq := hq.2 hc
        refine lv_iconst (v := 1) hx hb dX4_currentCharacter_30 (by decide) ?_
        refine lv_goto (tgt := 35) hx hb dX4_currentCharacter_31 (by decide) ?_
        exact hq _ _ _ hP hD hS (lv_sub hl [0] rfl)
set_option maxRecDepth 20000 in
theorem kwX4_readDigit_19 : Cond.fieldLink RX4 19 "PunchedFolds$Works" "position" "I" ∈ wsX4_readDigit := by decide +kernel
set_option maxRecDepth 20000 in
theorem iwX4_readDigit_X4 : ∀ w ∈ wsX40, w ∈ wsX4_readDigit := by decide +kernel
set_option maxHeartbeats 4000000 in
set_option maxRecDepth 100000 in
theorem c_X4_readDigit (l : Launch) (dC : Nat → ClassId) (dI : Nat → Nat → Nat) (cI cC cS : ClassId) (aT : Nat) (aCH : Nat) (sz : Nat) (wlen : Int32) (wpos : Int32) (wlet : Int32) (wcol : Int32) (wrow : Int32) (wnum : Int32) (chs : Nat → Int32) (x1 : Int32) (x2 : Int32) {post : Int32 → Int32 → Prop} (hq : wp_X4_readDigit wlen wpos chs x1 x2 post) : Met l yX4_readDigit wsX4_readDigit ({ frames := 1, cells := 0, slots := 0, locals := 21 } : Room) (gn_Pre (dC, dI) cI cC cS [.ref aT, .int x1, .int x2] sz [(aT, .inr (3, [.ref aCH, .int wlen, .int wpos, .int wlet, .int wcol, .int wrow, .int wnum])), (aCH, .inl (cI, 60, .inl chs))]) (va_Qi (fun (r : Int32) (u : Int32) => post r u) (fun (u : Int32) t => va_P (dC, dI) vwCl [(aT, .inr (3, [.ref aCH, .int wlen, .int u, .int wlet, .int wcol, .int wrow, .int wnum])), (aCH, .inl (cI, 60, .inl chs))] t.heap ∧ va_K (dC, dI) vwCl (gn_tys cI cC cS) t ∧ va_D (va_A [(aT, .inr (3, [.ref aCH, .int wlen, .int wpos, .int wlet, .int wcol, .int wrow, .int wnum])), (aCH, .inl (cI, 60, .inl chs))] sz) [(aT, .inr (3, [.ref aCH, .int wlen, .int u, .int wlet, .int wcol, .int wrow, .int wnum])), (aCH, .inl (cI, 60, .inl chs))]) (va_A [(aT, .inr (3, [.ref aCH, .int wlen, .int wpos, .int wlet, .int wcol, .int wrow, .int wnum])), (aCH, .inl (cI, 60, .inl chs))] sz)) 0 0 (va_A [(aT, .inr (3, [.ref aCH, .int wlen, .int wpos, .int wlet, .int wcol, .int wrow, .int wnum])), (aCH, .inl (cI, 60, .inl chs))] sz) := by
  unfold wp_X4_readDigit at hq
  refine Met.ofW (cc := cX4_readDigit) (maxL := 4) (ret := (some .int)) (by decide) rfl ?_
  intro p e s m args below meth c s₁ B hml hv
  obtain ⟨rfl, hsz, hP, hK, hN, hD0⟩ := hv
  have hx := B.exec
  have hb := B.bytes
  have hr := B.returns
  have hts := atoms_spec (ws := wsX4_readDigit) B.pre
  have hown : s.vm.findClass RX4 = some m.cls := findClass_of_methodNamed B.named
  have hlocks := B.notSynchronized
  subst hsz
  have hD := hD0.self (sz := s.heap.size)
  generalize hAe : va_A [(aT, .inr (3, [.ref aCH, .int wlen, .int wpos, .int wlet, .int wcol, .int wrow, .int wnum])), (aCH, .inl (cI, 60, .inl chs))] s.heap.size = A at hD ⊢
  have hA : ∀ q : Nat, s.heap.size ≤ q → A q := fun q h => by rw [← hAe]; exact Or.inr h
  have hS : va_S A s.heap s.heap [] := va_S.rf
  have hl := lv_entry ([.ref aT, .int x1, .int x2] : List Value) (n := 4) (Nat.le_of_ble_eq_true rfl)
  rw [lg_entry_eq]
  generalize (lg_sl ([.ref aT, .int x1, .int x2] : List Value) ++ List.replicate (4 - (lg_sl ([.ref aT, .int x1, .int x2] : List Value)).length) Slot.unset).toArray = ls at hl ⊢
  have hl : lv_has ls 4 [(0, .ref aT), (1, .int x1), (2, .int x2)] := hl
  refine gn_Q (hret := fun Q => ∀ (pc : Nat) (ls : Array Slot) (H : Heap) (locs : List Loc) (r : Int32) (m_wpos : Int32), decode cX4_readDigit pc = .ok (.ireturn, 1) → va_P (dC, dI) vwCl [(aT, .inr (3, [.ref aCH, .int wlen, .int m_wpos, .int wlet, .int wcol, .int wrow, .int wnum])), (aCH, .inl (cI, 60, .inl chs))] H → va_D A [(aT, .inr (3, [.ref aCH, .int wlen, .int m_wpos, .int wlet, .int wcol, .int wrow, .int wnum])), (aCH, .inl (cI, 60, .inl chs))] → va_S A s.heap H locs → post r m_wpos → W p l e ({ frames := 1, cells := 0, slots := 0, locals := 21 } : Room) s m ([.ref aT, .int x1, .int x2] : List Value).toArray below meth c H locs 0 0 Q (F0 m pc ls [.int r])) (fun Q hret => ?_) ?_
  rotate_left
  · intro pc ls H locs r m_wpos hdg hP hD hS hpost
    exact W.iret (v := r) hx hb hr (fun t ht hW => ⟨⟨r, m_wpos, rfl, hpost, by rw [ht]; exact hP, va_K.moved hW.alike hK, hD⟩, hS.F ht⟩) hS.2.2 hdg
  refine lv_aload_n hx hb dX4_readDigit_0 rfl (lv_at hl 0 rfl) ?_
  have hPc := hP.sub (ws' := [(aT, .inr (3, [.ref aCH, .int wlen, .int wpos, .int wlet, .int wcol, .int wrow, .int wnum])), (aCH, .inl (cI, 60, .inl chs))]) [0, 1] rfl
  have hDc := hD.sub (ws' := [(aT, .inr (3, [.ref aCH, .int wlen, .int wpos, .int wlet, .int wcol, .int wrow, .int wnum])), (aCH, .inl (cI, 60, .inl chs))]) [0, 1] (by decide) rfl
  have hFc := va_free (wc := [(aT, .inr (3, [.ref aCH, .int wlen, .int wpos, .int wlet, .int wcol, .int wrow, .int wnum])), (aCH, .inl (cI, 60, .inl chs))]) hD hS hA [0, 1] rfl
  refine va_calli (va_runV (As := []) (rest := []) ⟨hx, hb, hml, hown, hts⟩ (c_X4_currentCharacter l dC dI cI cC cS aT aCH _ wlen wpos wlet wcol wrow wnum chs hq) (cwV 0 hts gX4_readDigit_X4_currentCharacter rfl rfl rfl (by decide +kernel) ⟨Nat.le_of_ble_eq_true rfl, Nat.le_of_ble_eq_true rfl⟩) (gn_preV hPc hK hN hDc (ci := 3) (q0 := 0) rfl rfl) rfl rfl hl.1 rfl (lv_room (Nat.le_of_ble_eq_true rfl)) dX4_readDigit_1 ⟨Nat.zero_le _, Nat.zero_le _⟩) hS (fun q _ h => hFc q h) hFc (fun r_1 u t H1 locs ht hvm hq hB hz1 hk1 hS => ?_)
  obtain ⟨hP1, hK1, hD1⟩ := hB
  rw [ht] at hP1
  try dsimp only at hq
  obtain ⟨hP, hD⟩ := va_join (wr := []) (w1 := [(aT, .inr (3, [.ref aCH, .int wlen, .int wpos, .int wlet, .int wcol, .int wrow, .int wnum])), (aCH, .inl (cI, 60, .inl chs))]) hP hD [0, 1] [] rfl rfl (by decide) (by decide) hk1 hFc hP1 hD1
  have hP := hP.sub (ws' := [(aT, .inr (3, [.ref aCH, .int wlen, .int wpos, .int wlet, .int wcol, .int wrow, .int wnum])), (aCH, .inl (cI, 60, .inl chs))]) [0, 1] rfl
  have hD := hD.sub (ws' := [(aT, .inr (3, [.ref aCH, .int wlen, .int wpos, .int wlet, .int wcol, .int wrow, .int wnum])), (aCH, .inl (cI, 60, .inl chs))]) [0, 1] (by decide) rfl
  generalize H1 = H at hP hS ⊢
  refine lv_bipush (v := 48) hx hb dX4_readDigit_4 (by decide) ?_
  refine lv_isub hx hb dX4_readDigit_6 ?_
  refine lv_topi (fun w3_2 ew3_2 => ?_)
  have hq := hq w3_2 ew3_2
  refine lv_istore_n (lv' := [(3, .int w3_2), (0, .ref aT), (1, .int x1), (2, .int x2)]) hx hb dX4_readDigit_7 rfl hl (by decide) rfl (fun ls hl => ?_)
  refine lv_iload_n hx hb dX4_readDigit_8 rfl (lv_at hl 0 rfl) ?_
  refine lv_iload_n hx hb dX4_readDigit_9 rfl (lv_at hl 2 rfl) ?_
  have hq := hq (∀ (H : Heap) (locs : List Loc) (ls : Array Slot), va_P (dC, dI) vwCl [(aT, .inr (3, [.ref aCH, .int wlen, .int wpos, .int wlet, .int wcol, .int wrow, .int wnum])), (aCH, .inl (cI, 60, .inl chs))] H → va_D A [(aT, .inr (3, [.ref aCH, .int wlen, .int wpos, .int wlet, .int wcol, .int wrow, .int wnum])), (aCH, .inl (cI, 60, .inl chs))] → va_S A s.heap H locs → lv_has ls 4 [] → W p l e ({ frames := 1, cells := 0, slots := 0, locals := 21 } : Room) s m ([.ref aT, .int x1, .int x2] : List Value).toArray below meth c H locs 0 0 Q (F0 m 18 ls [])) (by
    intro  hq H locs ls hP hD hS hl
    refine lv_iconst (v := -1) hx hb dX4_readDigit_18 (by decide) ?_
    exact hret _ _ _ _ _ _ dX4_readDigit_19 hP hD hS hq)
  refine lv_icmp_lt (tgt := 18) hx hb dX4_readDigit_10 (by decide) (fun hc => ?_) (fun hc => ?_)
  · have hq := hq.1 hc
    exact hq _ _ _ hP hD hS (lv_sub hl [] rfl)
  · have hq := hq.2 hc
    refine lv_iload_n hx hb dX4_readDigit_13 rfl (lv_at hl 0 rfl) ?_
    refine lv_iload_n hx hb dX4_readDigit_14 rfl (lv_at hl 3 rfl) ?_
    refine lv_icmp_le (tgt := 20) hx hb dX4_readDigit_15 (by decide) (fun hc => ?_) (fun hc => ?_)
    · have hq := hq.1 hc
      refine lv_aload_n hx hb dX4_readDigit_20 rfl (lv_at hl 1 rfl) ?_
      refine lv_dup hx hb dX4_readDigit_21 rfl ?_
      refine va_get (D := (dC, dI)) (ci := 3) (v := .int wpos) (C := RX4) (T := TX4) (N := 7) hx hb hts iwX4_readDigit_X4 hown hK hP 0 rfl rfl 2 (by decide) (hts _ kwX4_readDigit_19) (fun _ h9 => h9) rfl dX4_readDigit_22 ?_
      refine lv_iconst (v := 1) hx hb dX4_readDigit_25 (by decide) ?_
      refine lv_iadd hx hb dX4_readDigit_26 ?_
      refine va_put (D := (dC, dI)) (ci := 3) (v := .int (wpos + (1 : Int32))) (ty := .int) (C := RX4) (T := TX4) (N := 7) hx hb hts iwX4_readDigit_X4 tyX4 tyX4_ok nmX4 hown hK hP hD hS 0 rfl rfl 2 (by decide) (hts _ kwX4_readDigit_19) (fun _ h9 => h9) rfl (by decide +kernel) rfl rfl (Nat.le_of_ble_eq_true rfl) dX4_readDigit_27 (fun H locs hP hD hS => ?_)
      have hP : va_P (dC, dI) vwCl [(aT, .inr (3, [.ref aCH, .int wlen, .int (wpos + (1 : Int32)), .int wlet, .int wcol, .int wrow, .int wnum])), (aCH, .inl (cI, 60, .inl chs))] H := hP
      have hD : va_D A [(aT, .inr (3, [.ref aCH, .int wlen, .int (wpos + (1 : Int32)), .int wlet, .int wcol, .int wrow, .int wnum])), (aCH, .inl (cI, 60, .inl chs))] := hD
      refine lv_iload_n hx hb dX4_readDigit_30 rfl (lv_at hl 0 rfl) ?_
      exact hret _ _ _ _ _ _ dX4_readDigit_31 hP hD hS hq
    · have hq := hq.2 hc
      exact hq _ _ _ hP hD hS (lv_sub hl [] rfl)
set_option maxRecDepth 20000 in
theorem kwX4_readField_25 : Cond.fieldLink RX4 25 "PunchedFolds$Works" "column" "I" ∈ wsX4_readField := by decide +kernel
set_option maxRecDepth 20000 in
theorem iwX4_readField_X4 : ∀ w ∈ wsX40, w ∈ wsX4_readField := by decide +kernel
set_option maxRecDepth 20000 in
theorem kwX4_readField_28 : Cond.fieldLink RX4 28 "PunchedFolds$Works" "row" "I" ∈ wsX4_readField := by decide +kernel
set_option maxHeartbeats 4000000 in
set_option maxRecDepth 100000 in
theorem c_X4_readField (l : Launch) (dC : Nat → ClassId) (dI : Nat → Nat → Nat) (cI cC cS : ClassId) (aT : Nat) (aCH : Nat) (sz : Nat) (wlen : Int32) (wpos : Int32) (wlet : Int32) (wcol : Int32) (wrow : Int32) (wnum : Int32) (chs : Nat → Int32) {post : Int32 → Int32 → Int32 → Int32 → Prop} (hq : wp_X4_readField wlen wpos wcol wrow chs post) : Met l yX4_readField wsX4_readField ({ frames := 2, cells := 0, slots := 0, locals := 44 } : Room) (gn_Pre (dC, dI) cI cC cS [.ref aT] sz [(aT, .inr (3, [.ref aCH, .int wlen, .int wpos, .int wlet, .int wcol, .int wrow, .int wnum])), (aCH, .inl (cI, 60, .inl chs))]) (va_Qi (fun (r : Int32) (u : Int32 × Int32 × Int32) => post r u.1 u.2.1 u.2.2) (fun (u : Int32 × Int32 × Int32) t => va_P (dC, dI) vwCl [(aT, .inr (3, [.ref aCH, .int wlen, .int u.1, .int wlet, .int u.2.1, .int u.2.2, .int wnum])), (aCH, .inl (cI, 60, .inl chs))] t.heap ∧ va_K (dC, dI) vwCl (gn_tys cI cC cS) t ∧ va_D (va_A [(aT, .inr (3, [.ref aCH, .int wlen, .int wpos, .int wlet, .int wcol, .int wrow, .int wnum])), (aCH, .inl (cI, 60, .inl chs))] sz) [(aT, .inr (3, [.ref aCH, .int wlen, .int u.1, .int wlet, .int u.2.1, .int u.2.2, .int wnum])), (aCH, .inl (cI, 60, .inl chs))]) (va_A [(aT, .inr (3, [.ref aCH, .int wlen, .int wpos, .int wlet, .int wcol, .int wrow, .int wnum])), (aCH, .inl (cI, 60, .inl chs))] sz)) 0 0 (va_A [(aT, .inr (3, [.ref aCH, .int wlen, .int wpos, .int wlet, .int wcol, .int wrow, .int wnum])), (aCH, .inl (cI, 60, .inl chs))] sz) := by
  unfold wp_X4_readField at hq
  refine Met.ofW (cc := cX4_readField) (maxL := 1) (ret := (some .boolean)) (by decide) rfl ?_
  intro p e s m args below meth c s₁ B hml hv
  obtain ⟨rfl, hsz, hP, hK, hN, hD0⟩ := hv
  have hx := B.exec
  have hb := B.bytes
  have hr := B.returns
  have hts := atoms_spec (ws := wsX4_readField) B.pre
  have hown : s.vm.findClass RX4 = some m.cls := findClass_of_methodNamed B.named
  have hlocks := B.notSynchronized
  subst hsz
  have hD := hD0.self (sz := s.heap.size)
  generalize hAe : va_A [(aT, .inr (3, [.ref aCH, .int wlen, .int wpos, .int wlet, .int wcol, .int wrow, .int wnum])), (aCH, .inl (cI, 60, .inl chs))] s.heap.size = A at hD ⊢
  have hA : ∀ q : Nat, s.heap.size ≤ q → A q := fun q h => by rw [← hAe]; exact Or.inr h
  have hS : va_S A s.heap s.heap [] := va_S.rf
  have hl := lv_entry ([.ref aT] : List Value) (n := 1) (Nat.le_of_ble_eq_true rfl)
  rw [lg_entry_eq]
  generalize (lg_sl ([.ref aT] : List Value) ++ List.replicate (1 - (lg_sl ([.ref aT] : List Value)).length) Slot.unset).toArray = ls at hl ⊢
  have hl : lv_has ls 1 [(0, .ref aT)] := hl
  refine gn_Q (hret := fun Q => ∀ (pc : Nat) (ls : Array Slot) (H : Heap) (locs : List Loc) (r : Int32) (m_wpos : Int32) (m_wcol : Int32) (m_wrow : Int32), decode cX4_readField pc = .ok (.ireturn, 1) → va_P (dC, dI) vwCl [(aT, .inr (3, [.ref aCH, .int wlen, .int m_wpos, .int wlet, .int m_wcol, .int m_wrow, .int wnum])), (aCH, .inl (cI, 60, .inl chs))] H → va_D A [(aT, .inr (3, [.ref aCH, .int wlen, .int m_wpos, .int wlet, .int m_wcol, .int m_wrow, .int wnum])), (aCH, .inl (cI, 60, .inl chs))] → va_S A s.heap H locs → (r = 0 ∨ r = 1) → post r m_wpos m_wcol m_wrow → W p l e ({ frames := 2, cells := 0, slots := 0, locals := 44 } : Room) s m ([.ref aT] : List Value).toArray below meth c H locs 0 0 Q (F0 m pc ls [.int r])) (fun Q hret => ?_) ?_
  rotate_left
  · intro pc ls H locs r m_wpos m_wcol m_wrow hdg hP hD hS hz hpost
    exact W.zret (v := r) hx hb hr (gn_nz hz) (fun t ht hW => ⟨⟨r, (m_wpos, m_wcol, m_wrow), rfl, hpost, by rw [ht]; exact hP, va_K.moved hW.alike hK, hD⟩, hS.F ht⟩) hS.2.2 hdg
  refine lv_aload_n hx hb dX4_readField_0 rfl (lv_at hl 0 rfl) ?_
  refine lv_aload_n hx hb dX4_readField_1 rfl (lv_at hl 0 rfl) ?_
  refine lv_iconst (v := 0) hx hb dX4_readField_2 (by decide) ?_
  refine lv_bipush (v := 7) hx hb dX4_readField_3 (by decide) ?_
  have hPc := hP.sub (ws' := [(aT, .inr (3, [.ref aCH, .int wlen, .int wpos, .int wlet, .int wcol, .int wrow, .int wnum])), (aCH, .inl (cI, 60, .inl chs))]) [0, 1] rfl
  have hDc := hD.sub (ws' := [(aT, .inr (3, [.ref aCH, .int wlen, .int wpos, .int wlet, .int wcol, .int wrow, .int wnum])), (aCH, .inl (cI, 60, .inl chs))]) [0, 1] (by decide) rfl
  have hFc := va_free (wc := [(aT, .inr (3, [.ref aCH, .int wlen, .int wpos, .int wlet, .int wcol, .int wrow, .int wnum])), (aCH, .inl (cI, 60, .inl chs))]) hD hS hA [0, 1] rfl
  refine va_calli (va_runV (As := [.int (0 : Int32), .int (7 : Int32)]) (rest := [.ref aT]) ⟨hx, hb, hml, hown, hts⟩ (c_X4_readDigit l dC dI cI cC cS aT aCH _ wlen wpos wlet wcol wrow wnum chs (0 : Int32) (7 : Int32) hq) (cwV 2 hts gX4_readField_X4_readDigit rfl rfl rfl (by decide +kernel) ⟨Nat.le_of_ble_eq_true rfl, Nat.le_of_ble_eq_true rfl⟩) (gn_preV hPc hK hN hDc (ci := 3) (q0 := 0) rfl rfl) rfl rfl hl.1 rfl (lv_room (Nat.le_of_ble_eq_true rfl)) dX4_readField_5 ⟨Nat.zero_le _, Nat.zero_le _⟩) hS (fun q _ h => hFc q h) hFc (fun r_1 u t H1 locs ht hvm hq hB hz1 hk1 hS => ?_)
  obtain ⟨wpos__2, rfl⟩ : ∃ z, z = u := ⟨_, rfl⟩
  obtain ⟨hP1, hK1, hD1⟩ := hB
  rw [ht] at hP1
  try dsimp only at hq
  obtain ⟨hP, hD⟩ := va_join (wr := []) (w1 := [(aT, .inr (3, [.ref aCH, .int wlen, .int wpos__2, .int wlet, .int wcol, .int wrow, .int wnum])), (aCH, .inl (cI, 60, .inl chs))]) hP hD [0, 1] [] rfl rfl (by decide) (by decide) hk1 hFc hP1 hD1
  have hP := hP.sub (ws' := [(aT, .inr (3, [.ref aCH, .int wlen, .int wpos__2, .int wlet, .int wcol, .int wrow, .int wnum])), (aCH, .inl (cI, 60, .inl chs))]) [0, 1] rfl
  have hD := hD.sub (ws' := [(aT, .inr (3, [.ref aCH, .int wlen, .int wpos__2, .int wlet, .int wcol, .int wrow, .int wnum])), (aCH, .inl (cI, 60, .inl chs))]) [0, 1] (by decide) rfl
  generalize H1 = H at hP hS ⊢
  refine va_put (D := (dC, dI)) (ci := 3) (v := .int r_1) (ty := .int) (C := RX4) (T := TX4) (N := 7) hx hb hts iwX4_readField_X4 tyX4 tyX4_ok nmX4 hown hK hP hD hS 0 rfl rfl 4 (by decide) (hts _ kwX4_readField_25) (fun _ h9 => h9) rfl (by decide +kernel) rfl rfl (Nat.le_of_ble_eq_true rfl) dX4_readField_8 (fun H locs hP hD hS => ?_)
  have hP : va_P (dC, dI) vwCl [(aT, .inr (3, [.ref aCH, .int wlen, .int wpos__2, .int wlet, .int r_1, .int wrow, .int wnum])), (aCH, .inl (cI, 60, .inl chs))] H := hP
  have hD : va_D A [(aT, .inr (3, [.ref aCH, .int wlen, .int wpos__2, .int wlet, .int r_1, .int wrow, .int wnum])), (aCH, .inl (cI, 60, .inl chs))] := hD
  refine lv_aload_n hx hb dX4_readField_11 rfl (lv_at hl 0 rfl) ?_
  refine va_get (D := (dC, dI)) (ci := 3) (v := .int r_1) (C := RX4) (T := TX4) (N := 7) hx hb hts iwX4_readField_X4 hown hK hP 0 rfl rfl 4 (by decide) (hts _ kwX4_readField_25) (fun _ h9 => h9) rfl dX4_readField_12 ?_
  refine lv_iconst (v := -1) hx hb dX4_readField_15 (by decide) ?_
  refine lv_icmp_ne (tgt := 21) hx hb dX4_readField_16 (by decide) (fun hc => ?_) (fun hc => ?_)
  · have hq := hq.1 hc
    refine lv_aload_n hx hb dX4_readField_21 rfl (lv_at hl 0 rfl) ?_
    refine lv_aload_n hx hb dX4_readField_22 rfl (lv_at hl 0 rfl) ?_
    refine lv_iconst (v := 0) hx hb dX4_readField_23 (by decide) ?_
    refine lv_bipush (v := 7) hx hb dX4_readField_24 (by decide) ?_
    have hPc := hP.sub (ws' := [(aT, .inr (3, [.ref aCH, .int wlen, .int wpos__2, .int wlet, .int r_1, .int wrow, .int wnum])), (aCH, .inl (cI, 60, .inl chs))]) [0, 1] rfl
    have hDc := hD.sub (ws' := [(aT, .inr (3, [.ref aCH, .int wlen, .int wpos__2, .int wlet, .int r_1, .int wrow, .int wnum])), (aCH, .inl (cI, 60, .inl chs))]) [0, 1] (by decide) rfl
    have hFc := va_free (wc := [(aT, .inr (3, [.ref aCH, .int wlen, .int wpos__2, .int wlet, .int r_1, .int wrow, .int wnum])), (aCH, .inl (cI, 60, .inl chs))]) hD hS hA [0, 1] rfl
    refine va_calli (va_runV (As := [.int (0 : Int32), .int (7 : Int32)]) (rest := [.ref aT]) ⟨hx, hb, hml, hown, hts⟩ (c_X4_readDigit l dC dI cI cC cS aT aCH _ wlen wpos__2 wlet r_1 wrow wnum chs (0 : Int32) (7 : Int32) hq) (cwV 2 hts gX4_readField_X4_readDigit rfl rfl rfl (by decide +kernel) ⟨Nat.le_of_ble_eq_true rfl, Nat.le_of_ble_eq_true rfl⟩) (gn_preV hPc hK hN hDc (ci := 3) (q0 := 0) rfl rfl) rfl rfl hl.1 rfl (lv_room (Nat.le_of_ble_eq_true rfl)) dX4_readField_26 ⟨Nat.zero_le _, Nat.zero_le _⟩) hS (fun q _ h => hFc q h) hFc (fun r_3 u t H1 locs ht hvm hq hB hz1 hk1 hS => ?_)
    obtain ⟨wpos__4, rfl⟩ : ∃ z, z = u := ⟨_, rfl⟩
    obtain ⟨hP1, hK1, hD1⟩ := hB
    rw [ht] at hP1
    try dsimp only at hq
    obtain ⟨hP, hD⟩ := va_join (wr := []) (w1 := [(aT, .inr (3, [.ref aCH, .int wlen, .int wpos__4, .int wlet, .int r_1, .int wrow, .int wnum])), (aCH, .inl (cI, 60, .inl chs))]) hP hD [0, 1] [] rfl rfl (by decide) (by decide) hk1 hFc hP1 hD1
    have hP := hP.sub (ws' := [(aT, .inr (3, [.ref aCH, .int wlen, .int wpos__4, .int wlet, .int r_1, .int wrow, .int wnum])), (aCH, .inl (cI, 60, .inl chs))]) [0, 1] rfl
    have hD := hD.sub (ws' := [(aT, .inr (3, [.ref aCH, .int wlen, .int wpos__4, .int wlet, .int r_1, .int wrow, .int wnum])), (aCH, .inl (cI, 60, .inl chs))]) [0, 1] (by decide) rfl
    generalize H1 = H at hP hS ⊢
    refine va_put (D := (dC, dI)) (ci := 3) (v := .int r_3) (ty := .int) (C := RX4) (T := TX4) (N := 7) hx hb hts iwX4_readField_X4 tyX4 tyX4_ok nmX4 hown hK hP hD hS 0 rfl rfl 5 (by decide) (hts _ kwX4_readField_28) (fun _ h9 => h9) rfl (by decide +kernel) rfl rfl (Nat.le_of_ble_eq_true rfl) dX4_readField_29 (fun H locs hP hD hS => ?_)
    have hP : va_P (dC, dI) vwCl [(aT, .inr (3, [.ref aCH, .int wlen, .int wpos__4, .int wlet, .int r_1, .int r_3, .int wnum])), (aCH, .inl (cI, 60, .inl chs))] H := hP
    have hD : va_D A [(aT, .inr (3, [.ref aCH, .int wlen, .int wpos__4, .int wlet, .int r_1, .int r_3, .int wnum])), (aCH, .inl (cI, 60, .inl chs))] := hD
    refine lv_aload_n hx hb dX4_readField_32 rfl (lv_at hl 0 rfl) ?_
    refine va_get (D := (dC, dI)) (ci := 3) (v := .int r_3) (C := RX4) (T := TX4) (N := 7) hx hb hts iwX4_readField_X4 hown hK hP 0 rfl rfl 5 (by decide) (hts _ kwX4_readField_28) (fun _ h9 => h9) rfl dX4_readField_33 ?_
    refine lv_iconst (v := -1) hx hb dX4_readField_36 (by decide) ?_
    refine lv_icmp_eq (tgt := 44) hx hb dX4_readField_37 (by decide) (fun hc => ?_) (fun hc => ?_)
    · have hq := hq.1 hc
      refine lv_iconst (v := 0) hx hb dX4_readField_44 (by decide) ?_
      have hz := hq.1
      have hq := hq.2
      exact hret _ _ _ _ _ _ _ _ dX4_readField_45 hP hD hS hz hq
    · have hq := hq.2 hc
      refine lv_iconst (v := 1) hx hb dX4_readField_40 (by decide) ?_
      refine lv_goto (tgt := 45) hx hb dX4_readField_41 (by decide) ?_
      have hz := hq.1
      have hq := hq.2
      exact hret _ _ _ _ _ _ _ _ dX4_readField_45 hP hD hS hz hq
  · have hq := hq.2 hc
    refine lv_iconst (v := 0) hx hb dX4_readField_19 (by decide) ?_
    have hz := hq.1
    have hq := hq.2
    exact hret _ _ _ _ _ _ _ _ dX4_readField_20 hP hD hS hz hq
set_option maxRecDepth 20000 in
theorem kwX4_readColour_31 : Cond.fieldLink RX4 31 "PunchedFolds$Works" "number" "I" ∈ wsX4_readColour := by decide +kernel
set_option maxRecDepth 20000 in
theorem iwX4_readColour_X4 : ∀ w ∈ wsX40, w ∈ wsX4_readColour := by decide +kernel
set_option maxHeartbeats 4000000 in
set_option maxRecDepth 100000 in
theorem c_X4_readColour (l : Launch) (dC : Nat → ClassId) (dI : Nat → Nat → Nat) (cI cC cS : ClassId) (aT : Nat) (aCH : Nat) (sz : Nat) (wlen : Int32) (wpos : Int32) (wlet : Int32) (wcol : Int32) (wrow : Int32) (wnum : Int32) (chs : Nat → Int32) {post : Int32 → Int32 → Int32 → Prop} (hq : wp_X4_readColour wlen wpos wnum chs post) : Met l yX4_readColour wsX4_readColour ({ frames := 2, cells := 0, slots := 0, locals := 44 } : Room) (gn_Pre (dC, dI) cI cC cS [.ref aT] sz [(aT, .inr (3, [.ref aCH, .int wlen, .int wpos, .int wlet, .int wcol, .int wrow, .int wnum])), (aCH, .inl (cI, 60, .inl chs))]) (va_Qi (fun (r : Int32) (u : Int32 × Int32) => post r u.1 u.2) (fun (u : Int32 × Int32) t => va_P (dC, dI) vwCl [(aT, .inr (3, [.ref aCH, .int wlen, .int u.1, .int wlet, .int wcol, .int wrow, .int u.2])), (aCH, .inl (cI, 60, .inl chs))] t.heap ∧ va_K (dC, dI) vwCl (gn_tys cI cC cS) t ∧ va_D (va_A [(aT, .inr (3, [.ref aCH, .int wlen, .int wpos, .int wlet, .int wcol, .int wrow, .int wnum])), (aCH, .inl (cI, 60, .inl chs))] sz) [(aT, .inr (3, [.ref aCH, .int wlen, .int u.1, .int wlet, .int wcol, .int wrow, .int u.2])), (aCH, .inl (cI, 60, .inl chs))]) (va_A [(aT, .inr (3, [.ref aCH, .int wlen, .int wpos, .int wlet, .int wcol, .int wrow, .int wnum])), (aCH, .inl (cI, 60, .inl chs))] sz)) 0 0 (va_A [(aT, .inr (3, [.ref aCH, .int wlen, .int wpos, .int wlet, .int wcol, .int wrow, .int wnum])), (aCH, .inl (cI, 60, .inl chs))] sz) := by
  unfold wp_X4_readColour at hq
  refine Met.ofW (cc := cX4_readColour) (maxL := 1) (ret := (some .boolean)) (by decide) rfl ?_
  intro p e s m args below meth c s₁ B hml hv
  obtain ⟨rfl, hsz, hP, hK, hN, hD0⟩ := hv
  have hx := B.exec
  have hb := B.bytes
  have hr := B.returns
  have hts := atoms_spec (ws := wsX4_readColour) B.pre
  have hown : s.vm.findClass RX4 = some m.cls := findClass_of_methodNamed B.named
  have hlocks := B.notSynchronized
  subst hsz
  have hD := hD0.self (sz := s.heap.size)
  generalize hAe : va_A [(aT, .inr (3, [.ref aCH, .int wlen, .int wpos, .int wlet, .int wcol, .int wrow, .int wnum])), (aCH, .inl (cI, 60, .inl chs))] s.heap.size = A at hD ⊢
  have hA : ∀ q : Nat, s.heap.size ≤ q → A q := fun q h => by rw [← hAe]; exact Or.inr h
  have hS : va_S A s.heap s.heap [] := va_S.rf
  have hl := lv_entry ([.ref aT] : List Value) (n := 1) (Nat.le_of_ble_eq_true rfl)
  rw [lg_entry_eq]
  generalize (lg_sl ([.ref aT] : List Value) ++ List.replicate (1 - (lg_sl ([.ref aT] : List Value)).length) Slot.unset).toArray = ls at hl ⊢
  have hl : lv_has ls 1 [(0, .ref aT)] := hl
  refine gn_Q (hret := fun Q => ∀ (pc : Nat) (ls : Array Slot) (H : Heap) (locs : List Loc) (r : Int32) (m_wpos : Int32) (m_wnum : Int32), decode cX4_readColour pc = .ok (.ireturn, 1) → va_P (dC, dI) vwCl [(aT, .inr (3, [.ref aCH, .int wlen, .int m_wpos, .int wlet, .int wcol, .int wrow, .int m_wnum])), (aCH, .inl (cI, 60, .inl chs))] H → va_D A [(aT, .inr (3, [.ref aCH, .int wlen, .int m_wpos, .int wlet, .int wcol, .int wrow, .int m_wnum])), (aCH, .inl (cI, 60, .inl chs))] → va_S A s.heap H locs → (r = 0 ∨ r = 1) → post r m_wpos m_wnum → W p l e ({ frames := 2, cells := 0, slots := 0, locals := 44 } : Room) s m ([.ref aT] : List Value).toArray below meth c H locs 0 0 Q (F0 m pc ls [.int r])) (fun Q hret => ?_) ?_
  rotate_left
  · intro pc ls H locs r m_wpos m_wnum hdg hP hD hS hz hpost
    exact W.zret (v := r) hx hb hr (gn_nz hz) (fun t ht hW => ⟨⟨r, (m_wpos, m_wnum), rfl, hpost, by rw [ht]; exact hP, va_K.moved hW.alike hK, hD⟩, hS.F ht⟩) hS.2.2 hdg
  refine lv_aload_n hx hb dX4_readColour_0 rfl (lv_at hl 0 rfl) ?_
  refine lv_aload_n hx hb dX4_readColour_1 rfl (lv_at hl 0 rfl) ?_
  refine lv_iconst (v := 1) hx hb dX4_readColour_2 (by decide) ?_
  refine lv_iconst (v := 5) hx hb dX4_readColour_3 (by decide) ?_
  have hPc := hP.sub (ws' := [(aT, .inr (3, [.ref aCH, .int wlen, .int wpos, .int wlet, .int wcol, .int wrow, .int wnum])), (aCH, .inl (cI, 60, .inl chs))]) [0, 1] rfl
  have hDc := hD.sub (ws' := [(aT, .inr (3, [.ref aCH, .int wlen, .int wpos, .int wlet, .int wcol, .int wrow, .int wnum])), (aCH, .inl (cI, 60, .inl chs))]) [0, 1] (by decide) rfl
  have hFc := va_free (wc := [(aT, .inr (3, [.ref aCH, .int wlen, .int wpos, .int wlet, .int wcol, .int wrow, .int wnum])), (aCH, .inl (cI, 60, .inl chs))]) hD hS hA [0, 1] rfl
  refine va_calli (va_runV (As := [.int (1 : Int32), .int (5 : Int32)]) (rest := [.ref aT]) ⟨hx, hb, hml, hown, hts⟩ (c_X4_readDigit l dC dI cI cC cS aT aCH _ wlen wpos wlet wcol wrow wnum chs (1 : Int32) (5 : Int32) hq) (cwV 2 hts gX4_readColour_X4_readDigit rfl rfl rfl (by decide +kernel) ⟨Nat.le_of_ble_eq_true rfl, Nat.le_of_ble_eq_true rfl⟩) (gn_preV hPc hK hN hDc (ci := 3) (q0 := 0) rfl rfl) rfl rfl hl.1 rfl (lv_room (Nat.le_of_ble_eq_true rfl)) dX4_readColour_4 ⟨Nat.zero_le _, Nat.zero_le _⟩) hS (fun q _ h => hFc q h) hFc (fun r_1 u t H1 locs ht hvm hq hB hz1 hk1 hS => ?_)
  obtain ⟨wpos__2, rfl⟩ : ∃ z, z = u := ⟨_, rfl⟩
  obtain ⟨hP1, hK1, hD1⟩ := hB
  rw [ht] at hP1
  try dsimp only at hq
  obtain ⟨hP, hD⟩ := va_join (wr := []) (w1 := [(aT, .inr (3, [.ref aCH, .int wlen, .int wpos__2, .int wlet, .int wcol, .int wrow, .int wnum])), (aCH, .inl (cI, 60, .inl chs))]) hP hD [0, 1] [] rfl rfl (by decide) (by decide) hk1 hFc hP1 hD1
  have hP := hP.sub (ws' := [(aT, .inr (3, [.ref aCH, .int wlen, .int wpos__2, .int wlet, .int wcol, .int wrow, .int wnum])), (aCH, .inl (cI, 60, .inl chs))]) [0, 1] rfl
  have hD := hD.sub (ws' := [(aT, .inr (3, [.ref aCH, .int wlen, .int wpos__2, .int wlet, .int wcol, .int wrow, .int wnum])), (aCH, .inl (cI, 60, .inl chs))]) [0, 1] (by decide) rfl
  generalize H1 = H at hP hS ⊢
  refine va_put (D := (dC, dI)) (ci := 3) (v := .int r_1) (ty := .int) (C := RX4) (T := TX4) (N := 7) hx hb hts iwX4_readColour_X4 tyX4 tyX4_ok nmX4 hown hK hP hD hS 0 rfl rfl 6 (by decide) (hts _ kwX4_readColour_31) (fun _ h9 => h9) rfl (by decide +kernel) rfl rfl (Nat.le_of_ble_eq_true rfl) dX4_readColour_7 (fun H locs hP hD hS => ?_)
  have hP : va_P (dC, dI) vwCl [(aT, .inr (3, [.ref aCH, .int wlen, .int wpos__2, .int wlet, .int wcol, .int wrow, .int r_1])), (aCH, .inl (cI, 60, .inl chs))] H := hP
  have hD : va_D A [(aT, .inr (3, [.ref aCH, .int wlen, .int wpos__2, .int wlet, .int wcol, .int wrow, .int r_1])), (aCH, .inl (cI, 60, .inl chs))] := hD
  refine lv_aload_n hx hb dX4_readColour_10 rfl (lv_at hl 0 rfl) ?_
  refine va_get (D := (dC, dI)) (ci := 3) (v := .int r_1) (C := RX4) (T := TX4) (N := 7) hx hb hts iwX4_readColour_X4 hown hK hP 0 rfl rfl 6 (by decide) (hts _ kwX4_readColour_31) (fun _ h9 => h9) rfl dX4_readColour_11 ?_
  refine lv_iconst (v := -1) hx hb dX4_readColour_14 (by decide) ?_
  refine lv_icmp_eq (tgt := 22) hx hb dX4_readColour_15 (by decide) (fun hc => ?_) (fun hc => ?_)
  · have hq := hq.1 hc
    refine lv_iconst (v := 0) hx hb dX4_readColour_22 (by decide) ?_
    have hz := hq.1
    have hq := hq.2
    exact hret _ _ _ _ _ _ _ dX4_readColour_23 hP hD hS hz hq
  · have hq := hq.2 hc
    refine lv_iconst (v := 1) hx hb dX4_readColour_18 (by decide) ?_
    refine lv_goto (tgt := 23) hx hb dX4_readColour_19 (by decide) ?_
    have hz := hq.1
    have hq := hq.2
    exact hret _ _ _ _ _ _ _ dX4_readColour_23 hP hD hS hz hq
set_option maxRecDepth 20000 in
theorem kwX4_readDepth_31 : Cond.fieldLink RX4 31 "PunchedFolds$Works" "number" "I" ∈ wsX4_readDepth := by decide +kernel
set_option maxRecDepth 20000 in
theorem iwX4_readDepth_X4 : ∀ w ∈ wsX40, w ∈ wsX4_readDepth := by decide +kernel
set_option maxRecDepth 20000 in
theorem kwX4_readDepth_19 : Cond.fieldLink RX4 19 "PunchedFolds$Works" "position" "I" ∈ wsX4_readDepth := by decide +kernel
set_option maxRecDepth 20000 in
theorem kwX4_readDepth_55 : Cond.methodLink RX4 55 Lib.Math.min.name ∈ wsX4_readDepth := by decide +kernel
set_option maxRecDepth 20000 in
theorem kwX4_readDepth_stat : Cond.static Lib.Math.min.name ∈ wsX4_readDepth := by decide +kernel
set_option maxRecDepth 20000 in
theorem kwX4_readDepth_math : Cond.initialized "java/lang/Math" ∈ wsX4_readDepth := by decide +kernel
set_option maxRecDepth 20000 in
theorem kwX4_readDepth_mcode : Cond.code Lib.Math.min.name Lib.Math.min.code 2 (some .int) ∈ wsX4_readDepth := by decide +kernel
set_option maxHeartbeats 4000000 in
set_option maxRecDepth 100000 in
theorem c_X4_readDepth (l : Launch) (dC : Nat → ClassId) (dI : Nat → Nat → Nat) (cI cC cS : ClassId) (aT : Nat) (aCH : Nat) (sz : Nat) (wlen : Int32) (wpos : Int32) (wlet : Int32) (wcol : Int32) (wrow : Int32) (wnum : Int32) (chs : Nat → Int32) {post : Int32 → Int32 → Int32 → Prop} (hq : wp_X4_readDepth wlen wpos wnum chs post) : Met l yX4_readDepth wsX4_readDepth ({ frames := 2, cells := 0, slots := 0, locals := 44 } : Room) (gn_Pre (dC, dI) cI cC cS [.ref aT] sz [(aT, .inr (3, [.ref aCH, .int wlen, .int wpos, .int wlet, .int wcol, .int wrow, .int wnum])), (aCH, .inl (cI, 60, .inl chs))]) (va_Qi (fun (r : Int32) (u : Int32 × Int32) => post r u.1 u.2) (fun (u : Int32 × Int32) t => va_P (dC, dI) vwCl [(aT, .inr (3, [.ref aCH, .int wlen, .int u.1, .int wlet, .int wcol, .int wrow, .int u.2])), (aCH, .inl (cI, 60, .inl chs))] t.heap ∧ va_K (dC, dI) vwCl (gn_tys cI cC cS) t ∧ va_D (va_A [(aT, .inr (3, [.ref aCH, .int wlen, .int wpos, .int wlet, .int wcol, .int wrow, .int wnum])), (aCH, .inl (cI, 60, .inl chs))] sz) [(aT, .inr (3, [.ref aCH, .int wlen, .int u.1, .int wlet, .int wcol, .int wrow, .int u.2])), (aCH, .inl (cI, 60, .inl chs))]) (va_A [(aT, .inr (3, [.ref aCH, .int wlen, .int wpos, .int wlet, .int wcol, .int wrow, .int wnum])), (aCH, .inl (cI, 60, .inl chs))] sz)) 0 0 (va_A [(aT, .inr (3, [.ref aCH, .int wlen, .int wpos, .int wlet, .int wcol, .int wrow, .int wnum])), (aCH, .inl (cI, 60, .inl chs))] sz) := by
  unfold wp_X4_readDepth at hq
  refine Met.ofW (cc := cX4_readDepth) (maxL := 2) (ret := (some .boolean)) (by decide) rfl ?_
  intro p e s m args below meth c s₁ B hml hv
  obtain ⟨rfl, hsz, hP, hK, hN, hD0⟩ := hv
  have hx := B.exec
  have hb := B.bytes
  have hr := B.returns
  have hts := atoms_spec (ws := wsX4_readDepth) B.pre
  have hown : s.vm.findClass RX4 = some m.cls := findClass_of_methodNamed B.named
  have hlocks := B.notSynchronized
  subst hsz
  have hD := hD0.self (sz := s.heap.size)
  generalize hAe : va_A [(aT, .inr (3, [.ref aCH, .int wlen, .int wpos, .int wlet, .int wcol, .int wrow, .int wnum])), (aCH, .inl (cI, 60, .inl chs))] s.heap.size = A at hD ⊢
  have hA : ∀ q : Nat, s.heap.size ≤ q → A q := fun q h => by rw [← hAe]; exact Or.inr h
  have hS : va_S A s.heap s.heap [] := va_S.rf
  have hl := lv_entry ([.ref aT] : List Value) (n := 2) (Nat.le_of_ble_eq_true rfl)
  rw [lg_entry_eq]
  generalize (lg_sl ([.ref aT] : List Value) ++ List.replicate (2 - (lg_sl ([.ref aT] : List Value)).length) Slot.unset).toArray = ls at hl ⊢
  have hl : lv_has ls 2 [(0, .ref aT)] := hl
  refine gn_Q (hret := fun Q => ∀ (pc : Nat) (ls : Array Slot) (H : Heap) (locs : List Loc) (r : Int32) (m_wpos : Int32) (m_wnum : Int32), decode cX4_readDepth pc = .ok (.ireturn, 1) → va_P (dC, dI) vwCl [(aT, .inr (3, [.ref aCH, .int wlen, .int m_wpos, .int wlet, .int wcol, .int wrow, .int m_wnum])), (aCH, .inl (cI, 60, .inl chs))] H → va_D A [(aT, .inr (3, [.ref aCH, .int wlen, .int m_wpos, .int wlet, .int wcol, .int wrow, .int m_wnum])), (aCH, .inl (cI, 60, .inl chs))] → va_S A s.heap H locs → (r = 0 ∨ r = 1) → post r m_wpos m_wnum → W p l e ({ frames := 2, cells := 0, slots := 0, locals := 44 } : Room) s m ([.ref aT] : List Value).toArray below meth c H locs 0 0 Q (F0 m pc ls [.int r])) (fun Q hret => ?_) ?_
  rotate_left
  · intro pc ls H locs r m_wpos m_wnum hdg hP hD hS hz hpost
    exact W.zret (v := r) hx hb hr (gn_nz hz) (fun t ht hW => ⟨⟨r, (m_wpos, m_wnum), rfl, hpost, by rw [ht]; exact hP, va_K.moved hW.alike hK, hD⟩, hS.F ht⟩) hS.2.2 hdg
  refine lv_aload_n hx hb dX4_readDepth_0 rfl (lv_at hl 0 rfl) ?_
  refine lv_iconst (v := 0) hx hb dX4_readDepth_1 (by decide) ?_
  refine va_put (D := (dC, dI)) (ci := 3) (v := .int (0 : Int32)) (ty := .int) (C := RX4) (T := TX4) (N := 7) hx hb hts iwX4_readDepth_X4 tyX4 tyX4_ok nmX4 hown hK hP hD hS 0 rfl rfl 6 (by decide) (hts _ kwX4_readDepth_31) (fun _ h9 => h9) rfl (by decide +kernel) rfl rfl (Nat.le_of_ble_eq_true rfl) dX4_readDepth_2 (fun H locs hP hD hS => ?_)
  have hP : va_P (dC, dI) vwCl [(aT, .inr (3, [.ref aCH, .int wlen, .int wpos, .int wlet, .int wcol, .int wrow, .int (0 : Int32)])), (aCH, .inl (cI, 60, .inl chs))] H := hP
  have hD : va_D A [(aT, .inr (3, [.ref aCH, .int wlen, .int wpos, .int wlet, .int wcol, .int wrow, .int (0 : Int32)])), (aCH, .inl (cI, 60, .inl chs))] := hD
  refine lv_aload_n hx hb dX4_readDepth_5 rfl (lv_at hl 0 rfl) ?_
  have hPc := hP.sub (ws' := [(aT, .inr (3, [.ref aCH, .int wlen, .int wpos, .int wlet, .int wcol, .int wrow, .int (0 : Int32)])), (aCH, .inl (cI, 60, .inl chs))]) [0, 1] rfl
  have hDc := hD.sub (ws' := [(aT, .inr (3, [.ref aCH, .int wlen, .int wpos, .int wlet, .int wcol, .int wrow, .int (0 : Int32)])), (aCH, .inl (cI, 60, .inl chs))]) [0, 1] (by decide) rfl
  have hFc := va_free (wc := [(aT, .inr (3, [.ref aCH, .int wlen, .int wpos, .int wlet, .int wcol, .int wrow, .int (0 : Int32)])), (aCH, .inl (cI, 60, .inl chs))]) hD hS hA [0, 1] rfl
  refine va_calli (va_runV (As := []) (rest := []) ⟨hx, hb, hml, hown, hts⟩ (c_X4_currentCharacter l dC dI cI cC cS aT aCH _ wlen wpos wlet wcol wrow (0 : Int32) chs hq) (cwV 0 hts gX4_readDepth_X4_currentCharacter rfl rfl rfl (by decide +kernel) ⟨Nat.le_of_ble_eq_true rfl, Nat.le_of_ble_eq_true rfl⟩) (gn_preV hPc hK hN hDc (ci := 3) (q0 := 0) rfl rfl) rfl rfl hl.1 rfl (lv_room (Nat.le_of_ble_eq_true rfl)) dX4_readDepth_6 ⟨Nat.zero_le _, Nat.zero_le _⟩) hS (fun q _ h => hFc q h) hFc (fun r_1 u t H1 locs ht hvm hq hB hz1 hk1 hS => ?_)
  obtain ⟨hP1, hK1, hD1⟩ := hB
  rw [ht] at hP1
  try dsimp only at hq
  obtain ⟨hP, hD⟩ := va_join (wr := []) (w1 := [(aT, .inr (3, [.ref aCH, .int wlen, .int wpos, .int wlet, .int wcol, .int wrow, .int (0 : Int32)])), (aCH, .inl (cI, 60, .inl chs))]) hP hD [0, 1] [] rfl rfl (by decide) (by decide) hk1 hFc hP1 hD1
  have hP := hP.sub (ws' := [(aT, .inr (3, [.ref aCH, .int wlen, .int wpos, .int wlet, .int wcol, .int wrow, .int (0 : Int32)])), (aCH, .inl (cI, 60, .inl chs))]) [0, 1] rfl
  have hD := hD.sub (ws' := [(aT, .inr (3, [.ref aCH, .int wlen, .int wpos, .int wlet, .int wcol, .int wrow, .int (0 : Int32)])), (aCH, .inl (cI, 60, .inl chs))]) [0, 1] (by decide) rfl
  generalize H1 = H at hP hS ⊢
  refine lv_bipush (v := 58) hx hb dX4_readDepth_9 (by decide) ?_
  refine lv_icmp_eq (tgt := 16) hx hb dX4_readDepth_11 (by decide) (fun hc => ?_) (fun hc => ?_)
  · have hq := hq.1 hc
    refine lv_aload_n hx hb dX4_readDepth_16 rfl (lv_at hl 0 rfl) ?_
    refine lv_dup hx hb dX4_readDepth_17 rfl ?_
    refine va_get (D := (dC, dI)) (ci := 3) (v := .int wpos) (C := RX4) (T := TX4) (N := 7) hx hb hts iwX4_readDepth_X4 hown hK hP 0 rfl rfl 2 (by decide) (hts _ kwX4_readDepth_19) (fun _ h9 => h9) rfl dX4_readDepth_18 ?_
    refine lv_iconst (v := 1) hx hb dX4_readDepth_21 (by decide) ?_
    refine lv_iadd hx hb dX4_readDepth_22 ?_
    refine va_put (D := (dC, dI)) (ci := 3) (v := .int (wpos + (1 : Int32))) (ty := .int) (C := RX4) (T := TX4) (N := 7) hx hb hts iwX4_readDepth_X4 tyX4 tyX4_ok nmX4 hown hK hP hD hS 0 rfl rfl 2 (by decide) (hts _ kwX4_readDepth_19) (fun _ h9 => h9) rfl (by decide +kernel) rfl rfl (Nat.le_of_ble_eq_true rfl) dX4_readDepth_23 (fun H locs hP hD hS => ?_)
    have hP : va_P (dC, dI) vwCl [(aT, .inr (3, [.ref aCH, .int wlen, .int (wpos + (1 : Int32)), .int wlet, .int wcol, .int wrow, .int (0 : Int32)])), (aCH, .inl (cI, 60, .inl chs))] H := hP
    have hD : va_D A [(aT, .inr (3, [.ref aCH, .int wlen, .int (wpos + (1 : Int32)), .int wlet, .int wcol, .int wrow, .int (0 : Int32)])), (aCH, .inl (cI, 60, .inl chs))] := hD
    refine lv_aload_n hx hb dX4_readDepth_26 rfl (lv_at hl 0 rfl) ?_
    refine lv_aload_n hx hb dX4_readDepth_27 rfl (lv_at hl 0 rfl) ?_
    refine lv_iconst (v := 1) hx hb dX4_readDepth_28 (by decide) ?_
    refine lv_bipush (v := 9) hx hb dX4_readDepth_29 (by decide) ?_
    have hPc := hP.sub (ws' := [(aT, .inr (3, [.ref aCH, .int wlen, .int (wpos + (1 : Int32)), .int wlet, .int wcol, .int wrow, .int (0 : Int32)])), (aCH, .inl (cI, 60, .inl chs))]) [0, 1] rfl
    have hDc := hD.sub (ws' := [(aT, .inr (3, [.ref aCH, .int wlen, .int (wpos + (1 : Int32)), .int wlet, .int wcol, .int wrow, .int (0 : Int32)])), (aCH, .inl (cI, 60, .inl chs))]) [0, 1] (by decide) rfl
    have hFc := va_free (wc := [(aT, .inr (3, [.ref aCH, .int wlen, .int (wpos + (1 : Int32)), .int wlet, .int wcol, .int wrow, .int (0 : Int32)])), (aCH, .inl (cI, 60, .inl chs))]) hD hS hA [0, 1] rfl
    refine va_calli (va_runV (As := [.int (1 : Int32), .int (9 : Int32)]) (rest := [.ref aT]) ⟨hx, hb, hml, hown, hts⟩ (c_X4_readDigit l dC dI cI cC cS aT aCH _ wlen (wpos + (1 : Int32)) wlet wcol wrow (0 : Int32) chs (1 : Int32) (9 : Int32) hq) (cwV 2 hts gX4_readDepth_X4_readDigit rfl rfl rfl (by decide +kernel) ⟨Nat.le_of_ble_eq_true rfl, Nat.le_of_ble_eq_true rfl⟩) (gn_preV hPc hK hN hDc (ci := 3) (q0 := 0) rfl rfl) rfl rfl hl.1 rfl (lv_room (Nat.le_of_ble_eq_true rfl)) dX4_readDepth_31 ⟨Nat.zero_le _, Nat.zero_le _⟩) hS (fun q _ h => hFc q h) hFc (fun r_2 u t H1 locs ht hvm hq hB hz1 hk1 hS => ?_)
    obtain ⟨wpos__3, rfl⟩ : ∃ z, z = u := ⟨_, rfl⟩
    obtain ⟨hP1, hK1, hD1⟩ := hB
    rw [ht] at hP1
    try dsimp only at hq
    obtain ⟨hP, hD⟩ := va_join (wr := []) (w1 := [(aT, .inr (3, [.ref aCH, .int wlen, .int wpos__3, .int wlet, .int wcol, .int wrow, .int (0 : Int32)])), (aCH, .inl (cI, 60, .inl chs))]) hP hD [0, 1] [] rfl rfl (by decide) (by decide) hk1 hFc hP1 hD1
    have hP := hP.sub (ws' := [(aT, .inr (3, [.ref aCH, .int wlen, .int wpos__3, .int wlet, .int wcol, .int wrow, .int (0 : Int32)])), (aCH, .inl (cI, 60, .inl chs))]) [0, 1] rfl
    have hD := hD.sub (ws' := [(aT, .inr (3, [.ref aCH, .int wlen, .int wpos__3, .int wlet, .int wcol, .int wrow, .int (0 : Int32)])), (aCH, .inl (cI, 60, .inl chs))]) [0, 1] (by decide) rfl
    generalize H1 = H at hP hS ⊢
    refine va_put (D := (dC, dI)) (ci := 3) (v := .int r_2) (ty := .int) (C := RX4) (T := TX4) (N := 7) hx hb hts iwX4_readDepth_X4 tyX4 tyX4_ok nmX4 hown hK hP hD hS 0 rfl rfl 6 (by decide) (hts _ kwX4_readDepth_31) (fun _ h9 => h9) rfl (by decide +kernel) rfl rfl (Nat.le_of_ble_eq_true rfl) dX4_readDepth_34 (fun H locs hP hD hS => ?_)
    have hP : va_P (dC, dI) vwCl [(aT, .inr (3, [.ref aCH, .int wlen, .int wpos__3, .int wlet, .int wcol, .int wrow, .int r_2])), (aCH, .inl (cI, 60, .inl chs))] H := hP
    have hD : va_D A [(aT, .inr (3, [.ref aCH, .int wlen, .int wpos__3, .int wlet, .int wcol, .int wrow, .int r_2])), (aCH, .inl (cI, 60, .inl chs))] := hD
    refine lv_aload_n hx hb dX4_readDepth_37 rfl (lv_at hl 0 rfl) ?_
    refine va_get (D := (dC, dI)) (ci := 3) (v := .int r_2) (C := RX4) (T := TX4) (N := 7) hx hb hts iwX4_readDepth_X4 hown hK hP 0 rfl rfl 6 (by decide) (hts _ kwX4_readDepth_31) (fun _ h9 => h9) rfl dX4_readDepth_38 ?_
    refine lv_iconst (v := -1) hx hb dX4_readDepth_41 (by decide) ?_
    refine lv_icmp_ne (tgt := 47) hx hb dX4_readDepth_42 (by decide) (fun hc => ?_) (fun hc => ?_)
    · have hq := hq.1 hc
      refine lv_aload_n hx hb dX4_readDepth_47 rfl (lv_at hl 0 rfl) ?_
      refine lv_iconst (v := 0) hx hb dX4_readDepth_48 (by decide) ?_
      refine lv_bipush (v := 9) hx hb dX4_readDepth_49 (by decide) ?_
      refine lv_bipush (v := 64) hx hb dX4_readDepth_51 (by decide) ?_
      refine lv_bipush (v := 10) hx hb dX4_readDepth_53 (by decide) ?_
      refine lv_aload_n hx hb dX4_readDepth_55 rfl (lv_at hl 0 rfl) ?_
      refine va_get (D := (dC, dI)) (ci := 3) (v := .int r_2) (C := RX4) (T := TX4) (N := 7) hx hb hts iwX4_readDepth_X4 hown hK hP 0 rfl rfl 6 (by decide) (hts _ kwX4_readDepth_31) (fun _ h9 => h9) rfl dX4_readDepth_56 ?_
      refine lv_imul hx hb dX4_readDepth_59 ?_
      refine lv_isub hx hb dX4_readDepth_60 ?_
      refine va_mmin hx hb (by rw [hml]; exact hl.1.symm) hown (hts _ kwX4_readDepth_55) (hts _ kwX4_readDepth_stat) (hts _ kwX4_readDepth_math) (hts _ kwX4_readDepth_mcode) (Nat.le_of_ble_eq_true rfl) (Nat.le_of_ble_eq_true rfl) (Nat.le_of_ble_eq_true rfl) (Nat.le_of_ble_eq_true rfl) dX4_readDepth_61 ?_
      have hPc := hP.sub (ws' := [(aT, .inr (3, [.ref aCH, .int wlen, .int wpos__3, .int wlet, .int wcol, .int wrow, .int r_2])), (aCH, .inl (cI, 60, .inl chs))]) [0, 1] rfl
      have hDc := hD.sub (ws' := [(aT, .inr (3, [.ref aCH, .int wlen, .int wpos__3, .int wlet, .int wcol, .int wrow, .int r_2])), (aCH, .inl (cI, 60, .inl chs))]) [0, 1] (by decide) rfl
      have hFc := va_free (wc := [(aT, .inr (3, [.ref aCH, .int wlen, .int wpos__3, .int wlet, .int wcol, .int wrow, .int r_2])), (aCH, .inl (cI, 60, .inl chs))]) hD hS hA [0, 1] rfl
      refine va_calli (va_runV (As := [.int (0 : Int32), .int (if ((64 : Int32) - ((10 : Int32) * r_2)) < (9 : Int32) then ((64 : Int32) - ((10 : Int32) * r_2)) else (9 : Int32))]) (rest := []) ⟨hx, hb, hml, hown, hts⟩ (c_X4_readDigit l dC dI cI cC cS aT aCH _ wlen wpos__3 wlet wcol wrow r_2 chs (0 : Int32) (if ((64 : Int32) - ((10 : Int32) * r_2)) < (9 : Int32) then ((64 : Int32) - ((10 : Int32) * r_2)) else (9 : Int32)) hq) (cwV 2 hts gX4_readDepth_X4_readDigit rfl rfl rfl (by decide +kernel) ⟨Nat.le_of_ble_eq_true rfl, Nat.le_of_ble_eq_true rfl⟩) (gn_preV hPc hK hN hDc (ci := 3) (q0 := 0) rfl rfl) rfl rfl hl.1 rfl (lv_room (Nat.le_of_ble_eq_true rfl)) dX4_readDepth_64 ⟨Nat.zero_le _, Nat.zero_le _⟩) hS (fun q _ h => hFc q h) hFc (fun r_4 u t H1 locs ht hvm hq hB hz1 hk1 hS => ?_)
      obtain ⟨wpos__5, rfl⟩ : ∃ z, z = u := ⟨_, rfl⟩
      obtain ⟨hP1, hK1, hD1⟩ := hB
      rw [ht] at hP1
      try dsimp only at hq
      obtain ⟨hP, hD⟩ := va_join (wr := []) (w1 := [(aT, .inr (3, [.ref aCH, .int wlen, .int wpos__5, .int wlet, .int wcol, .int wrow, .int r_2])), (aCH, .inl (cI, 60, .inl chs))]) hP hD [0, 1] [] rfl rfl (by decide) (by decide) hk1 hFc hP1 hD1
      have hP := hP.sub (ws' := [(aT, .inr (3, [.ref aCH, .int wlen, .int wpos__5, .int wlet, .int wcol, .int wrow, .int r_2])), (aCH, .inl (cI, 60, .inl chs))]) [0, 1] rfl
      have hD := hD.sub (ws' := [(aT, .inr (3, [.ref aCH, .int wlen, .int wpos__5, .int wlet, .int wcol, .int wrow, .int r_2])), (aCH, .inl (cI, 60, .inl chs))]) [0, 1] (by decide) rfl
      generalize H1 = H at hP hS ⊢
      refine lv_istore_n (lv' := [(1, .int r_4), (0, .ref aT)]) hx hb dX4_readDepth_67 rfl hl (by decide) rfl (fun ls hl => ?_)
      refine lv_aload_n hx hb dX4_readDepth_68 rfl (lv_at hl 1 rfl) ?_
      refine lv_iload_n hx hb dX4_readDepth_69 rfl (lv_at hl 0 rfl) ?_
      refine lv_iconst (v := -1) hx hb dX4_readDepth_70 (by decide) ?_
      have hq := hq (fun (t_6 : Int32) => ∀ (H : Heap) (locs : List Loc) (ls : Array Slot), va_P (dC, dI) vwCl [(aT, .inr (3, [.ref aCH, .int wlen, .int wpos__5, .int wlet, .int wcol, .int wrow, .int r_2])), (aCH, .inl (cI, 60, .inl chs))] H → va_D A [(aT, .inr (3, [.ref aCH, .int wlen, .int wpos__5, .int wlet, .int wcol, .int wrow, .int r_2])), (aCH, .inl (cI, 60, .inl chs))] → va_S A s.heap H locs → lv_has ls 2 [] → W p l e ({ frames := 2, cells := 0, slots := 0, locals := 44 } : Room) s m ([.ref aT] : List Value).toArray below meth c H locs 0 0 Q (F0 m 90 ls [.int t_6, .ref aT])) (by
        intro t_6 hq H locs ls hP hD hS hl
        refine va_put (D := (dC, dI)) (ci := 3) (v := .int t_6) (ty := .int) (C := RX4) (T := TX4) (N := 7) hx hb hts iwX4_readDepth_X4 tyX4 tyX4_ok nmX4 hown hK hP hD hS 0 rfl rfl 6 (by decide) (hts _ kwX4_readDepth_31) (fun _ h9 => h9) rfl (by decide +kernel) rfl rfl (Nat.le_of_ble_eq_true rfl) dX4_readDepth_90 (fun H locs hP hD hS => ?_)
        have hP : va_P (dC, dI) vwCl [(aT, .inr (3, [.ref aCH, .int wlen, .int wpos__5, .int wlet, .int wcol, .int wrow, .int t_6])), (aCH, .inl (cI, 60, .inl chs))] H := hP
        have hD : va_D A [(aT, .inr (3, [.ref aCH, .int wlen, .int wpos__5, .int wlet, .int wcol, .int wrow, .int t_6])), (aCH, .inl (cI, 60, .inl chs))] := hD
        refine lv_iconst (v := 1) hx hb dX4_readDepth_93 (by decide) ?_
        have hz := hq.1
        have hq := hq.2
        exact hret _ _ _ _ _ _ _ dX4_readDepth_94 hP hD hS hz hq)
      refine lv_icmp_ne (tgt := 81) hx hb dX4_readDepth_71 (by decide) (fun hc => ?_) (fun hc => ?_)
      · have hq := hq.1 hc
        refine lv_bipush (v := 10) hx hb dX4_readDepth_81 (by decide) ?_
        refine lv_aload_n hx hb dX4_readDepth_83 rfl (lv_at hl 1 rfl) ?_
        refine va_get (D := (dC, dI)) (ci := 3) (v := .int r_2) (C := RX4) (T := TX4) (N := 7) hx hb hts iwX4_readDepth_X4 hown hK hP 0 rfl rfl 6 (by decide) (hts _ kwX4_readDepth_31) (fun _ h9 => h9) rfl dX4_readDepth_84 ?_
        refine lv_imul hx hb dX4_readDepth_87 ?_
        refine lv_iload_n hx hb dX4_readDepth_88 rfl (lv_at hl 0 rfl) ?_
        refine lv_iadd hx hb dX4_readDepth_89 ?_
        exact hq _ _ _ hP hD hS (lv_sub hl [] rfl)
      · have hq := hq.2 hc
        refine lv_aload_n hx hb dX4_readDepth_74 rfl (lv_at hl 1 rfl) ?_
        refine va_get (D := (dC, dI)) (ci := 3) (v := .int r_2) (C := RX4) (T := TX4) (N := 7) hx hb hts iwX4_readDepth_X4 hown hK hP 0 rfl rfl 6 (by decide) (hts _ kwX4_readDepth_31) (fun _ h9 => h9) rfl dX4_readDepth_75 ?_
        refine lv_goto (tgt := 90) hx hb dX4_readDepth_78 (by decide) ?_
        exact hq _ _ _ hP hD hS (lv_sub hl [] rfl)
    · have hq := hq.2 hc
      refine lv_iconst (v := 0) hx hb dX4_readDepth_45 (by decide) ?_
      have hz := hq.1
      have hq := hq.2
      exact hret _ _ _ _ _ _ _ dX4_readDepth_46 hP hD hS hz hq
  · have hq := hq.2 hc
    refine lv_iconst (v := 1) hx hb dX4_readDepth_14 (by decide) ?_
    have hz := hq.1
    have hq := hq.2
    exact hret _ _ _ _ _ _ _ dX4_readDepth_15 hP hD hS hz hq
set_option maxRecDepth 20000 in
theorem kwX4_readWork_22 : Cond.fieldLink RX4 22 "PunchedFolds$Works" "letter" "I" ∈ wsX4_readWork := by decide +kernel
set_option maxRecDepth 20000 in
theorem iwX4_readWork_X4 : ∀ w ∈ wsX40, w ∈ wsX4_readWork := by decide +kernel
set_option maxRecDepth 20000 in
theorem kwX4_readWork_19 : Cond.fieldLink RX4 19 "PunchedFolds$Works" "position" "I" ∈ wsX4_readWork := by decide +kernel
set_option maxHeartbeats 4000000 in
set_option maxRecDepth 100000 in
theorem c_X4_readWork (l : Launch) (dC : Nat → ClassId) (dI : Nat → Nat → Nat) (cI cC cS : ClassId) (aT : Nat) (aCH : Nat) (sz : Nat) (wlen : Int32) (wpos : Int32) (wlet : Int32) (wcol : Int32) (wrow : Int32) (wnum : Int32) (chs : Nat → Int32) {post : Int32 → Int32 → Int32 → Int32 → Int32 → Int32 → Prop} (hq : wp_X4_readWork wlen wpos wlet wcol wrow wnum chs post) : Met l yX4_readWork wsX4_readWork ({ frames := 3, cells := 0, slots := 0, locals := 65 } : Room) (gn_Pre (dC, dI) cI cC cS [.ref aT] sz [(aT, .inr (3, [.ref aCH, .int wlen, .int wpos, .int wlet, .int wcol, .int wrow, .int wnum])), (aCH, .inl (cI, 60, .inl chs))]) (va_Qi (fun (r : Int32) (u : Int32 × Int32 × Int32 × Int32 × Int32) => post r u.1 u.2.1 u.2.2.1 u.2.2.2.1 u.2.2.2.2) (fun (u : Int32 × Int32 × Int32 × Int32 × Int32) t => va_P (dC, dI) vwCl [(aT, .inr (3, [.ref aCH, .int wlen, .int u.1, .int u.2.1, .int u.2.2.1, .int u.2.2.2.1, .int u.2.2.2.2])), (aCH, .inl (cI, 60, .inl chs))] t.heap ∧ va_K (dC, dI) vwCl (gn_tys cI cC cS) t ∧ va_D (va_A [(aT, .inr (3, [.ref aCH, .int wlen, .int wpos, .int wlet, .int wcol, .int wrow, .int wnum])), (aCH, .inl (cI, 60, .inl chs))] sz) [(aT, .inr (3, [.ref aCH, .int wlen, .int u.1, .int u.2.1, .int u.2.2.1, .int u.2.2.2.1, .int u.2.2.2.2])), (aCH, .inl (cI, 60, .inl chs))]) (va_A [(aT, .inr (3, [.ref aCH, .int wlen, .int wpos, .int wlet, .int wcol, .int wrow, .int wnum])), (aCH, .inl (cI, 60, .inl chs))] sz)) 0 0 (va_A [(aT, .inr (3, [.ref aCH, .int wlen, .int wpos, .int wlet, .int wcol, .int wrow, .int wnum])), (aCH, .inl (cI, 60, .inl chs))] sz) := by
  unfold wp_X4_readWork at hq
  refine Met.ofW (cc := cX4_readWork) (maxL := 1) (ret := (some .boolean)) (by decide) rfl ?_
  intro p e s m args below meth c s₁ B hml hv
  obtain ⟨rfl, hsz, hP, hK, hN, hD0⟩ := hv
  have hx := B.exec
  have hb := B.bytes
  have hr := B.returns
  have hts := atoms_spec (ws := wsX4_readWork) B.pre
  have hown : s.vm.findClass RX4 = some m.cls := findClass_of_methodNamed B.named
  have hlocks := B.notSynchronized
  subst hsz
  have hD := hD0.self (sz := s.heap.size)
  generalize hAe : va_A [(aT, .inr (3, [.ref aCH, .int wlen, .int wpos, .int wlet, .int wcol, .int wrow, .int wnum])), (aCH, .inl (cI, 60, .inl chs))] s.heap.size = A at hD ⊢
  have hA : ∀ q : Nat, s.heap.size ≤ q → A q := fun q h => by rw [← hAe]; exact Or.inr h
  have hS : va_S A s.heap s.heap [] := va_S.rf
  have hl := lv_entry ([.ref aT] : List Value) (n := 1) (Nat.le_of_ble_eq_true rfl)
  rw [lg_entry_eq]
  generalize (lg_sl ([.ref aT] : List Value) ++ List.replicate (1 - (lg_sl ([.ref aT] : List Value)).length) Slot.unset).toArray = ls at hl ⊢
  have hl : lv_has ls 1 [(0, .ref aT)] := hl
  refine gn_Q (hret := fun Q => ∀ (pc : Nat) (ls : Array Slot) (H : Heap) (locs : List Loc) (r : Int32) (m_wpos : Int32) (m_wlet : Int32) (m_wcol : Int32) (m_wrow : Int32) (m_wnum : Int32), decode cX4_readWork pc = .ok (.ireturn, 1) → va_P (dC, dI) vwCl [(aT, .inr (3, [.ref aCH, .int wlen, .int m_wpos, .int m_wlet, .int m_wcol, .int m_wrow, .int m_wnum])), (aCH, .inl (cI, 60, .inl chs))] H → va_D A [(aT, .inr (3, [.ref aCH, .int wlen, .int m_wpos, .int m_wlet, .int m_wcol, .int m_wrow, .int m_wnum])), (aCH, .inl (cI, 60, .inl chs))] → va_S A s.heap H locs → (r = 0 ∨ r = 1) → post r m_wpos m_wlet m_wcol m_wrow m_wnum → W p l e ({ frames := 3, cells := 0, slots := 0, locals := 65 } : Room) s m ([.ref aT] : List Value).toArray below meth c H locs 0 0 Q (F0 m pc ls [.int r])) (fun Q hret => ?_) ?_
  rotate_left
  · intro pc ls H locs r m_wpos m_wlet m_wcol m_wrow m_wnum hdg hP hD hS hz hpost
    exact W.zret (v := r) hx hb hr (gn_nz hz) (fun t ht hW => ⟨⟨r, (m_wpos, m_wlet, m_wcol, m_wrow, m_wnum), rfl, hpost, by rw [ht]; exact hP, va_K.moved hW.alike hK, hD⟩, hS.F ht⟩) hS.2.2 hdg
  refine lv_aload_n hx hb dX4_readWork_0 rfl (lv_at hl 0 rfl) ?_
  refine lv_aload_n hx hb dX4_readWork_1 rfl (lv_at hl 0 rfl) ?_
  have hPc := hP.sub (ws' := [(aT, .inr (3, [.ref aCH, .int wlen, .int wpos, .int wlet, .int wcol, .int wrow, .int wnum])), (aCH, .inl (cI, 60, .inl chs))]) [0, 1] rfl
  have hDc := hD.sub (ws' := [(aT, .inr (3, [.ref aCH, .int wlen, .int wpos, .int wlet, .int wcol, .int wrow, .int wnum])), (aCH, .inl (cI, 60, .inl chs))]) [0, 1] (by decide) rfl
  have hFc := va_free (wc := [(aT, .inr (3, [.ref aCH, .int wlen, .int wpos, .int wlet, .int wcol, .int wrow, .int wnum])), (aCH, .inl (cI, 60, .inl chs))]) hD hS hA [0, 1] rfl
  refine va_calli (va_runV (As := []) (rest := [.ref aT]) ⟨hx, hb, hml, hown, hts⟩ (c_X4_currentCharacter l dC dI cI cC cS aT aCH _ wlen wpos wlet wcol wrow wnum chs hq) (cwV 0 hts gX4_readWork_X4_currentCharacter rfl rfl rfl (by decide +kernel) ⟨Nat.le_of_ble_eq_true rfl, Nat.le_of_ble_eq_true rfl⟩) (gn_preV hPc hK hN hDc (ci := 3) (q0 := 0) rfl rfl) rfl rfl hl.1 rfl (lv_room (Nat.le_of_ble_eq_true rfl)) dX4_readWork_2 ⟨Nat.zero_le _, Nat.zero_le _⟩) hS (fun q _ h => hFc q h) hFc (fun r_1 u t H1 locs ht hvm hq hB hz1 hk1 hS => ?_)
  obtain ⟨hP1, hK1, hD1⟩ := hB
  rw [ht] at hP1
  try dsimp only at hq
  obtain ⟨hP, hD⟩ := va_join (wr := []) (w1 := [(aT, .inr (3, [.ref aCH, .int wlen, .int wpos, .int wlet, .int wcol, .int wrow, .int wnum])), (aCH, .inl (cI, 60, .inl chs))]) hP hD [0, 1] [] rfl rfl (by decide) (by decide) hk1 hFc hP1 hD1
  have hP := hP.sub (ws' := [(aT, .inr (3, [.ref aCH, .int wlen, .int wpos, .int wlet, .int wcol, .int wrow, .int wnum])), (aCH, .inl (cI, 60, .inl chs))]) [0, 1] rfl
  have hD := hD.sub (ws' := [(aT, .inr (3, [.ref aCH, .int wlen, .int wpos, .int wlet, .int wcol, .int wrow, .int wnum])), (aCH, .inl (cI, 60, .inl chs))]) [0, 1] (by decide) rfl
  generalize H1 = H at hP hS ⊢
  refine va_put (D := (dC, dI)) (ci := 3) (v := .int r_1) (ty := .int) (C := RX4) (T := TX4) (N := 7) hx hb hts iwX4_readWork_X4 tyX4 tyX4_ok nmX4 hown hK hP hD hS 0 rfl rfl 3 (by decide) (hts _ kwX4_readWork_22) (fun _ h9 => h9) rfl (by decide +kernel) rfl rfl (Nat.le_of_ble_eq_true rfl) dX4_readWork_5 (fun H locs hP hD hS => ?_)
  have hP : va_P (dC, dI) vwCl [(aT, .inr (3, [.ref aCH, .int wlen, .int wpos, .int r_1, .int wcol, .int wrow, .int wnum])), (aCH, .inl (cI, 60, .inl chs))] H := hP
  have hD : va_D A [(aT, .inr (3, [.ref aCH, .int wlen, .int wpos, .int r_1, .int wcol, .int wrow, .int wnum])), (aCH, .inl (cI, 60, .inl chs))] := hD
  refine lv_aload_n hx hb dX4_readWork_8 rfl (lv_at hl 0 rfl) ?_
  refine va_get (D := (dC, dI)) (ci := 3) (v := .int r_1) (C := RX4) (T := TX4) (N := 7) hx hb hts iwX4_readWork_X4 hown hK hP 0 rfl rfl 3 (by decide) (hts _ kwX4_readWork_22) (fun _ h9 => h9) rfl dX4_readWork_9 ?_
  have hq := hq (∀ (H : Heap) (locs : List Loc) (ls : Array Slot), va_P (dC, dI) vwCl [(aT, .inr (3, [.ref aCH, .int wlen, .int wpos, .int r_1, .int wcol, .int wrow, .int wnum])), (aCH, .inl (cI, 60, .inl chs))] H → va_D A [(aT, .inr (3, [.ref aCH, .int wlen, .int wpos, .int r_1, .int wcol, .int wrow, .int wnum])), (aCH, .inl (cI, 60, .inl chs))] → va_S A s.heap H locs → lv_has ls 1 [(0, .ref aT)] → W p l e ({ frames := 3, cells := 0, slots := 0, locals := 65 } : Room) s m ([.ref aT] : List Value).toArray below meth c H locs 0 0 Q (F0 m 108 ls [])) (by
    intro  hq H locs ls hP hD hS hl
    refine lv_aload_n hx hb dX4_readWork_108 rfl (lv_at hl 0 rfl) ?_
    refine lv_dup hx hb dX4_readWork_109 rfl ?_
    refine va_get (D := (dC, dI)) (ci := 3) (v := .int wpos) (C := RX4) (T := TX4) (N := 7) hx hb hts iwX4_readWork_X4 hown hK hP 0 rfl rfl 2 (by decide) (hts _ kwX4_readWork_19) (fun _ h9 => h9) rfl dX4_readWork_110 ?_
    refine lv_iconst (v := 1) hx hb dX4_readWork_113 (by decide) ?_
    refine lv_iadd hx hb dX4_readWork_114 ?_
    refine va_put (D := (dC, dI)) (ci := 3) (v := .int (wpos + (1 : Int32))) (ty := .int) (C := RX4) (T := TX4) (N := 7) hx hb hts iwX4_readWork_X4 tyX4 tyX4_ok nmX4 hown hK hP hD hS 0 rfl rfl 2 (by decide) (hts _ kwX4_readWork_19) (fun _ h9 => h9) rfl (by decide +kernel) rfl rfl (Nat.le_of_ble_eq_true rfl) dX4_readWork_115 (fun H locs hP hD hS => ?_)
    have hP : va_P (dC, dI) vwCl [(aT, .inr (3, [.ref aCH, .int wlen, .int (wpos + (1 : Int32)), .int r_1, .int wcol, .int wrow, .int wnum])), (aCH, .inl (cI, 60, .inl chs))] H := hP
    have hD : va_D A [(aT, .inr (3, [.ref aCH, .int wlen, .int (wpos + (1 : Int32)), .int r_1, .int wcol, .int wrow, .int wnum])), (aCH, .inl (cI, 60, .inl chs))] := hD
    refine lv_iconst (v := 1) hx hb dX4_readWork_118 (by decide) ?_
    have hz := hq.1
    have hq := hq.2
    exact hret _ _ _ _ _ _ _ _ _ _ dX4_readWork_119 hP hD hS hz hq)
  have hq := hq (∀ (H : Heap) (locs : List Loc) (ls : Array Slot), va_P (dC, dI) vwCl [(aT, .inr (3, [.ref aCH, .int wlen, .int wpos, .int r_1, .int wcol, .int wrow, .int wnum])), (aCH, .inl (cI, 60, .inl chs))] H → va_D A [(aT, .inr (3, [.ref aCH, .int wlen, .int wpos, .int r_1, .int wcol, .int wrow, .int wnum])), (aCH, .inl (cI, 60, .inl chs))] → va_S A s.heap H locs → lv_has ls 1 [] → W p l e ({ frames := 3, cells := 0, slots := 0, locals := 65 } : Room) s m ([.ref aT] : List Value).toArray below meth c H locs 0 0 Q (F0 m 180 ls [])) (by
    intro  hq H locs ls hP hD hS hl
    refine lv_iconst (v := 0) hx hb dX4_readWork_180 (by decide) ?_
    have hz := hq.1
    have hq := hq.2
    exact hret _ _ _ _ _ _ _ _ _ _ dX4_readWork_181 hP hD hS hz hq)
  rcases gn_sw (66) (85) r_1 with hO | ⟨j, hj, hj2⟩
  · have hq := hq.1 hO
    refine lv_tableOut (tgt := 180) hx hb dX4_readWork_12 hO (by decide) ?_
    exact hq _ _ _ hP hD hS (lv_sub hl [] rfl)
  · have hq := hq.2
    have hj3 : j = 0 ∨ j = 1 ∨ j = 2 ∨ j = 3 ∨ j = 4 ∨ j = 5 ∨ j = 6 ∨ j = 7 ∨ j = 8 ∨ j = 9 ∨ j = 10 ∨ j = 11 ∨ j = 12 ∨ j = 13 ∨ j = 14 ∨ j = 15 ∨ j = 16 ∨ j = 17 ∨ j = 18 ∨ j = 19 := by omega
    rcases hj3 with rfl | rfl | rfl | rfl | rfl | rfl | rfl | rfl | rfl | rfl | rfl | rfl | rfl | rfl | rfl | rfl | rfl | rfl | rfl | rfl
    · have hc : r_1 = (66 : Int32) := hj2.trans (by decide)
      have hq := hq.1 hc
      refine lv_tableIn (off := 96) (tgt := 108) hx hb dX4_readWork_12 (by rw [hc]; decide) (by rw [hc]; decide) (by rw [hc]; rfl) (by decide) ?_
      exact hq _ _ _ hP hD hS (lv_sub hl [0] rfl)
    · have hc : r_1 = (67 : Int32) := hj2.trans (by decide)
      have hq := hq.2.1 hc
      refine lv_tableIn (off := 168) (tgt := 180) hx hb dX4_readWork_12 (by rw [hc]; decide) (by rw [hc]; decide) (by rw [hc]; rfl) (by decide) ?_
      exact hq _ _ _ hP hD hS (lv_sub hl [] rfl)
    · have hc : r_1 = (68 : Int32) := hj2.trans (by decide)
      have hq := hq.2.2.1 hc
      refine lv_tableIn (off := 168) (tgt := 180) hx hb dX4_readWork_12 (by rw [hc]; decide) (by rw [hc]; decide) (by rw [hc]; rfl) (by decide) ?_
      exact hq _ _ _ hP hD hS (lv_sub hl [] rfl)
    · have hc : r_1 = (69 : Int32) := hj2.trans (by decide)
      have hq := hq.2.2.2.1 hc
      refine lv_tableIn (off := 168) (tgt := 180) hx hb dX4_readWork_12 (by rw [hc]; decide) (by rw [hc]; decide) (by rw [hc]; rfl) (by decide) ?_
      exact hq _ _ _ hP hD hS (lv_sub hl [] rfl)
    · have hc : r_1 = (70 : Int32) := hj2.trans (by decide)
      have hq := hq.2.2.2.2.1 hc
      refine lv_tableIn (off := 168) (tgt := 180) hx hb dX4_readWork_12 (by rw [hc]; decide) (by rw [hc]; decide) (by rw [hc]; rfl) (by decide) ?_
      exact hq _ _ _ hP hD hS (lv_sub hl [] rfl)
    · have hc : r_1 = (71 : Int32) := hj2.trans (by decide)
      have hq := hq.2.2.2.2.2.1 hc
      refine lv_tableIn (off := 168) (tgt := 180) hx hb dX4_readWork_12 (by rw [hc]; decide) (by rw [hc]; decide) (by rw [hc]; rfl) (by decide) ?_
      exact hq _ _ _ hP hD hS (lv_sub hl [] rfl)
    · have hc : r_1 = (72 : Int32) := hj2.trans (by decide)
      have hq := hq.2.2.2.2.2.2.1 hc
      refine lv_tableIn (off := 168) (tgt := 180) hx hb dX4_readWork_12 (by rw [hc]; decide) (by rw [hc]; decide) (by rw [hc]; rfl) (by decide) ?_
      exact hq _ _ _ hP hD hS (lv_sub hl [] rfl)
    · have hc : r_1 = (73 : Int32) := hj2.trans (by decide)
      have hq := hq.2.2.2.2.2.2.2.1 hc
      refine lv_tableIn (off := 138) (tgt := 150) hx hb dX4_readWork_12 (by rw [hc]; decide) (by rw [hc]; decide) (by rw [hc]; rfl) (by decide) ?_
      refine lv_aload_n hx hb dX4_readWork_150 rfl (lv_at hl 0 rfl) ?_
      refine lv_dup hx hb dX4_readWork_151 rfl ?_
      refine va_get (D := (dC, dI)) (ci := 3) (v := .int wpos) (C := RX4) (T := TX4) (N := 7) hx hb hts iwX4_readWork_X4 hown hK hP 0 rfl rfl 2 (by decide) (hts _ kwX4_readWork_19) (fun _ h9 => h9) rfl dX4_readWork_152 ?_
      refine lv_iconst (v := 1) hx hb dX4_readWork_155 (by decide) ?_
      refine lv_iadd hx hb dX4_readWork_156 ?_
      refine va_put (D := (dC, dI)) (ci := 3) (v := .int (wpos + (1 : Int32))) (ty := .int) (C := RX4) (T := TX4) (N := 7) hx hb hts iwX4_readWork_X4 tyX4 tyX4_ok nmX4 hown hK hP hD hS 0 rfl rfl 2 (by decide) (hts _ kwX4_readWork_19) (fun _ h9 => h9) rfl (by decide +kernel) rfl rfl (Nat.le_of_ble_eq_true rfl) dX4_readWork_157 (fun H locs hP hD hS => ?_)
      have hP : va_P (dC, dI) vwCl [(aT, .inr (3, [.ref aCH, .int wlen, .int (wpos + (1 : Int32)), .int r_1, .int wcol, .int wrow, .int wnum])), (aCH, .inl (cI, 60, .inl chs))] H := hP
      have hD : va_D A [(aT, .inr (3, [.ref aCH, .int wlen, .int (wpos + (1 : Int32)), .int r_1, .int wcol, .int wrow, .int wnum])), (aCH, .inl (cI, 60, .inl chs))] := hD
      refine lv_aload_n hx hb dX4_readWork_160 rfl (lv_at hl 0 rfl) ?_
      have hPc := hP.sub (ws' := [(aT, .inr (3, [.ref aCH, .int wlen, .int (wpos + (1 : Int32)), .int r_1, .int wcol, .int wrow, .int wnum])), (aCH, .inl (cI, 60, .inl chs))]) [0, 1] rfl
      have hDc := hD.sub (ws' := [(aT, .inr (3, [.ref aCH, .int wlen, .int (wpos + (1 : Int32)), .int r_1, .int wcol, .int wrow, .int wnum])), (aCH, .inl (cI, 60, .inl chs))]) [0, 1] (by decide) rfl
      have hFc := va_free (wc := [(aT, .inr (3, [.ref aCH, .int wlen, .int (wpos + (1 : Int32)), .int r_1, .int wcol, .int wrow, .int wnum])), (aCH, .inl (cI, 60, .inl chs))]) hD hS hA [0, 1] rfl
      refine va_calli (va_runV (As := []) (rest := []) ⟨hx, hb, hml, hown, hts⟩ (c_X4_readField l dC dI cI cC cS aT aCH _ wlen (wpos + (1 : Int32)) r_1 wcol wrow wnum chs hq) (cwV 0 hts gX4_readWork_X4_readField rfl rfl rfl (by decide +kernel) ⟨Nat.le_of_ble_eq_true rfl, Nat.le_of_ble_eq_true rfl⟩) (gn_preV hPc hK hN hDc (ci := 3) (q0 := 0) rfl rfl) rfl rfl hl.1 rfl (lv_room (Nat.le_of_ble_eq_true rfl)) dX4_readWork_161 ⟨Nat.zero_le _, Nat.zero_le _⟩) hS (fun q _ h => hFc q h) hFc (fun r_2 u t H1 locs ht hvm hq hB hz1 hk1 hS => ?_)
      obtain ⟨wpos__3, wcol__4, wrow__5⟩ := u
      obtain ⟨hP1, hK1, hD1⟩ := hB
      rw [ht] at hP1
      try dsimp only at hq
      obtain ⟨hP, hD⟩ := va_join (wr := []) (w1 := [(aT, .inr (3, [.ref aCH, .int wlen, .int wpos__3, .int r_1, .int wcol__4, .int wrow__5, .int wnum])), (aCH, .inl (cI, 60, .inl chs))]) hP hD [0, 1] [] rfl rfl (by decide) (by decide) hk1 hFc hP1 hD1
      have hP := hP.sub (ws' := [(aT, .inr (3, [.ref aCH, .int wlen, .int wpos__3, .int r_1, .int wcol__4, .int wrow__5, .int wnum])), (aCH, .inl (cI, 60, .inl chs))]) [0, 1] rfl
      have hD := hD.sub (ws' := [(aT, .inr (3, [.ref aCH, .int wlen, .int wpos__3, .int r_1, .int wcol__4, .int wrow__5, .int wnum])), (aCH, .inl (cI, 60, .inl chs))]) [0, 1] (by decide) rfl
      generalize H1 = H at hP hS ⊢
      have hq := hq (fun (wpos__6 : Int32) (wnum__7 : Int32) => ∀ (H : Heap) (locs : List Loc) (ls : Array Slot), va_P (dC, dI) vwCl [(aT, .inr (3, [.ref aCH, .int wlen, .int wpos__6, .int r_1, .int wcol__4, .int wrow__5, .int wnum__7])), (aCH, .inl (cI, 60, .inl chs))] H → va_D A [(aT, .inr (3, [.ref aCH, .int wlen, .int wpos__6, .int r_1, .int wcol__4, .int wrow__5, .int wnum__7])), (aCH, .inl (cI, 60, .inl chs))] → va_S A s.heap H locs → lv_has ls 1 [] → W p l e ({ frames := 3, cells := 0, slots := 0, locals := 65 } : Room) s m ([.ref aT] : List Value).toArray below meth c H locs 0 0 Q (F0 m 178 ls [])) (by
        intro wpos__6 wnum__7 hq H locs ls hP hD hS hl
        refine lv_iconst (v := 0) hx hb dX4_readWork_178 (by decide) ?_
        have hz := hq.1
        have hq := hq.2
        exact hret _ _ _ _ _ _ _ _ _ _ dX4_readWork_179 hP hD hS hz hq)
      refine lv_if_eq (tgt := 178) hx hb dX4_readWork_164 (by decide) (fun hc => ?_) (fun hc => ?_)
      · have hq := hq.1 hc
        exact hq _ _ _ hP hD hS (lv_sub hl [] rfl)
      · have hq := hq.2 hc
        refine lv_aload_n hx hb dX4_readWork_167 rfl (lv_at hl 0 rfl) ?_
        have hPc := hP.sub (ws' := [(aT, .inr (3, [.ref aCH, .int wlen, .int wpos__3, .int r_1, .int wcol__4, .int wrow__5, .int wnum])), (aCH, .inl (cI, 60, .inl chs))]) [0, 1] rfl
        have hDc := hD.sub (ws' := [(aT, .inr (3, [.ref aCH, .int wlen, .int wpos__3, .int r_1, .int wcol__4, .int wrow__5, .int wnum])), (aCH, .inl (cI, 60, .inl chs))]) [0, 1] (by decide) rfl
        have hFc := va_free (wc := [(aT, .inr (3, [.ref aCH, .int wlen, .int wpos__3, .int r_1, .int wcol__4, .int wrow__5, .int wnum])), (aCH, .inl (cI, 60, .inl chs))]) hD hS hA [0, 1] rfl
        refine va_calli (va_runV (As := []) (rest := []) ⟨hx, hb, hml, hown, hts⟩ (c_X4_readColour l dC dI cI cC cS aT aCH _ wlen wpos__3 r_1 wcol__4 wrow__5 wnum chs hq) (cwV 0 hts gX4_readWork_X4_readColour rfl rfl rfl (by decide +kernel) ⟨Nat.le_of_ble_eq_true rfl, Nat.le_of_ble_eq_true rfl⟩) (gn_preV hPc hK hN hDc (ci := 3) (q0 := 0) rfl rfl) rfl rfl hl.1 rfl (lv_room (Nat.le_of_ble_eq_true rfl)) dX4_readWork_168 ⟨Nat.zero_le _, Nat.zero_le _⟩) hS (fun q _ h => hFc q h) hFc (fun r_8 u t H1 locs ht hvm hq hB hz1 hk1 hS => ?_)
        obtain ⟨wpos__9, wnum__10⟩ := u
        obtain ⟨hP1, hK1, hD1⟩ := hB
        rw [ht] at hP1
        try dsimp only at hq
        obtain ⟨hP, hD⟩ := va_join (wr := []) (w1 := [(aT, .inr (3, [.ref aCH, .int wlen, .int wpos__9, .int r_1, .int wcol__4, .int wrow__5, .int wnum__10])), (aCH, .inl (cI, 60, .inl chs))]) hP hD [0, 1] [] rfl rfl (by decide) (by decide) hk1 hFc hP1 hD1
        have hP := hP.sub (ws' := [(aT, .inr (3, [.ref aCH, .int wlen, .int wpos__9, .int r_1, .int wcol__4, .int wrow__5, .int wnum__10])), (aCH, .inl (cI, 60, .inl chs))]) [0, 1] rfl
        have hD := hD.sub (ws' := [(aT, .inr (3, [.ref aCH, .int wlen, .int wpos__9, .int r_1, .int wcol__4, .int wrow__5, .int wnum__10])), (aCH, .inl (cI, 60, .inl chs))]) [0, 1] (by decide) rfl
        generalize H1 = H at hP hS ⊢
        refine lv_if_eq (tgt := 178) hx hb dX4_readWork_171 (by decide) (fun hc => ?_) (fun hc => ?_)
        · have hq := hq.1 hc
          exact hq _ _ _ hP hD hS (lv_sub hl [] rfl)
        · have hq := hq.2 hc
          refine lv_iconst (v := 1) hx hb dX4_readWork_174 (by decide) ?_
          refine lv_goto (tgt := 179) hx hb dX4_readWork_175 (by decide) ?_
          have hz := hq.1
          have hq := hq.2
          exact hret _ _ _ _ _ _ _ _ _ _ dX4_readWork_179 hP hD hS hz hq
    · have hc : r_1 = (74 : Int32) := hj2.trans (by decide)
      have hq := hq.2.2.2.2.2.2.2.2.1 hc
      refine lv_tableIn (off := 168) (tgt := 180) hx hb dX4_readWork_12 (by rw [hc]; decide) (by rw [hc]; decide) (by rw [hc]; rfl) (by decide) ?_
      exact hq _ _ _ hP hD hS (lv_sub hl [] rfl)
    · have hc : r_1 = (75 : Int32) := hj2.trans (by decide)
      have hq := hq.2.2.2.2.2.2.2.2.2.1 hc
      refine lv_tableIn (off := 168) (tgt := 180) hx hb dX4_readWork_12 (by rw [hc]; decide) (by rw [hc]; decide) (by rw [hc]; rfl) (by decide) ?_
      exact hq _ _ _ hP hD hS (lv_sub hl [] rfl)
    · have hc : r_1 = (76 : Int32) := hj2.trans (by decide)
      have hq := hq.2.2.2.2.2.2.2.2.2.2.1 hc
      refine lv_tableIn (off := 96) (tgt := 108) hx hb dX4_readWork_12 (by rw [hc]; decide) (by rw [hc]; decide) (by rw [hc]; rfl) (by decide) ?_
      exact hq _ _ _ hP hD hS (lv_sub hl [0] rfl)
    · have hc : r_1 = (77 : Int32) := hj2.trans (by decide)
      have hq := hq.2.2.2.2.2.2.2.2.2.2.2.1 hc
      refine lv_tableIn (off := 168) (tgt := 180) hx hb dX4_readWork_12 (by rw [hc]; decide) (by rw [hc]; decide) (by rw [hc]; rfl) (by decide) ?_
      exact hq _ _ _ hP hD hS (lv_sub hl [] rfl)
    · have hc : r_1 = (78 : Int32) := hj2.trans (by decide)
      have hq := hq.2.2.2.2.2.2.2.2.2.2.2.2.1 hc
      refine lv_tableIn (off := 168) (tgt := 180) hx hb dX4_readWork_12 (by rw [hc]; decide) (by rw [hc]; decide) (by rw [hc]; rfl) (by decide) ?_
      exact hq _ _ _ hP hD hS (lv_sub hl [] rfl)
    · have hc : r_1 = (79 : Int32) := hj2.trans (by decide)
      have hq := hq.2.2.2.2.2.2.2.2.2.2.2.2.2.1 hc
      refine lv_tableIn (off := 168) (tgt := 180) hx hb dX4_readWork_12 (by rw [hc]; decide) (by rw [hc]; decide) (by rw [hc]; rfl) (by decide) ?_
      exact hq _ _ _ hP hD hS (lv_sub hl [] rfl)
    · have hc : r_1 = (80 : Int32) := hj2.trans (by decide)
      have hq := hq.2.2.2.2.2.2.2.2.2.2.2.2.2.2.1 hc
      refine lv_tableIn (off := 108) (tgt := 120) hx hb dX4_readWork_12 (by rw [hc]; decide) (by rw [hc]; decide) (by rw [hc]; rfl) (by decide) ?_
      refine lv_aload_n hx hb dX4_readWork_120 rfl (lv_at hl 0 rfl) ?_
      refine lv_dup hx hb dX4_readWork_121 rfl ?_
      refine va_get (D := (dC, dI)) (ci := 3) (v := .int wpos) (C := RX4) (T := TX4) (N := 7) hx hb hts iwX4_readWork_X4 hown hK hP 0 rfl rfl 2 (by decide) (hts _ kwX4_readWork_19) (fun _ h9 => h9) rfl dX4_readWork_122 ?_
      refine lv_iconst (v := 1) hx hb dX4_readWork_125 (by decide) ?_
      refine lv_iadd hx hb dX4_readWork_126 ?_
      refine va_put (D := (dC, dI)) (ci := 3) (v := .int (wpos + (1 : Int32))) (ty := .int) (C := RX4) (T := TX4) (N := 7) hx hb hts iwX4_readWork_X4 tyX4 tyX4_ok nmX4 hown hK hP hD hS 0 rfl rfl 2 (by decide) (hts _ kwX4_readWork_19) (fun _ h9 => h9) rfl (by decide +kernel) rfl rfl (Nat.le_of_ble_eq_true rfl) dX4_readWork_127 (fun H locs hP hD hS => ?_)
      have hP : va_P (dC, dI) vwCl [(aT, .inr (3, [.ref aCH, .int wlen, .int (wpos + (1 : Int32)), .int r_1, .int wcol, .int wrow, .int wnum])), (aCH, .inl (cI, 60, .inl chs))] H := hP
      have hD : va_D A [(aT, .inr (3, [.ref aCH, .int wlen, .int (wpos + (1 : Int32)), .int r_1, .int wcol, .int wrow, .int wnum])), (aCH, .inl (cI, 60, .inl chs))] := hD
      refine lv_aload_n hx hb dX4_readWork_130 rfl (lv_at hl 0 rfl) ?_
      have hPc := hP.sub (ws' := [(aT, .inr (3, [.ref aCH, .int wlen, .int (wpos + (1 : Int32)), .int r_1, .int wcol, .int wrow, .int wnum])), (aCH, .inl (cI, 60, .inl chs))]) [0, 1] rfl
      have hDc := hD.sub (ws' := [(aT, .inr (3, [.ref aCH, .int wlen, .int (wpos + (1 : Int32)), .int r_1, .int wcol, .int wrow, .int wnum])), (aCH, .inl (cI, 60, .inl chs))]) [0, 1] (by decide) rfl
      have hFc := va_free (wc := [(aT, .inr (3, [.ref aCH, .int wlen, .int (wpos + (1 : Int32)), .int r_1, .int wcol, .int wrow, .int wnum])), (aCH, .inl (cI, 60, .inl chs))]) hD hS hA [0, 1] rfl
      refine va_calli (va_runV (As := []) (rest := []) ⟨hx, hb, hml, hown, hts⟩ (c_X4_readField l dC dI cI cC cS aT aCH _ wlen (wpos + (1 : Int32)) r_1 wcol wrow wnum chs hq) (cwV 0 hts gX4_readWork_X4_readField rfl rfl rfl (by decide +kernel) ⟨Nat.le_of_ble_eq_true rfl, Nat.le_of_ble_eq_true rfl⟩) (gn_preV hPc hK hN hDc (ci := 3) (q0 := 0) rfl rfl) rfl rfl hl.1 rfl (lv_room (Nat.le_of_ble_eq_true rfl)) dX4_readWork_131 ⟨Nat.zero_le _, Nat.zero_le _⟩) hS (fun q _ h => hFc q h) hFc (fun r_11 u t H1 locs ht hvm hq hB hz1 hk1 hS => ?_)
      obtain ⟨wpos__12, wcol__13, wrow__14⟩ := u
      obtain ⟨hP1, hK1, hD1⟩ := hB
      rw [ht] at hP1
      try dsimp only at hq
      obtain ⟨hP, hD⟩ := va_join (wr := []) (w1 := [(aT, .inr (3, [.ref aCH, .int wlen, .int wpos__12, .int r_1, .int wcol__13, .int wrow__14, .int wnum])), (aCH, .inl (cI, 60, .inl chs))]) hP hD [0, 1] [] rfl rfl (by decide) (by decide) hk1 hFc hP1 hD1
      have hP := hP.sub (ws' := [(aT, .inr (3, [.ref aCH, .int wlen, .int wpos__12, .int r_1, .int wcol__13, .int wrow__14, .int wnum])), (aCH, .inl (cI, 60, .inl chs))]) [0, 1] rfl
      have hD := hD.sub (ws' := [(aT, .inr (3, [.ref aCH, .int wlen, .int wpos__12, .int r_1, .int wcol__13, .int wrow__14, .int wnum])), (aCH, .inl (cI, 60, .inl chs))]) [0, 1] (by decide) rfl
      generalize H1 = H at hP hS ⊢
      have hq := hq (fun (wpos__15 : Int32) (wnum__16 : Int32) => ∀ (H : Heap) (locs : List Loc) (ls : Array Slot), va_P (dC, dI) vwCl [(aT, .inr (3, [.ref aCH, .int wlen, .int wpos__15, .int r_1, .int wcol__13, .int wrow__14, .int wnum__16])), (aCH, .inl (cI, 60, .inl chs))] H → va_D A [(aT, .inr (3, [.ref aCH, .int wlen, .int wpos__15, .int r_1, .int wcol__13, .int wrow__14, .int wnum__16])), (aCH, .inl (cI, 60, .inl chs))] → va_S A s.heap H locs → lv_has ls 1 [] → W p l e ({ frames := 3, cells := 0, slots := 0, locals := 65 } : Room) s m ([.ref aT] : List Value).toArray below meth c H locs 0 0 Q (F0 m 148 ls [])) (by
        intro wpos__15 wnum__16 hq H locs ls hP hD hS hl
        refine lv_iconst (v := 0) hx hb dX4_readWork_148 (by decide) ?_
        have hz := hq.1
        have hq := hq.2
        exact hret _ _ _ _ _ _ _ _ _ _ dX4_readWork_149 hP hD hS hz hq)
      refine lv_if_eq (tgt := 148) hx hb dX4_readWork_134 (by decide) (fun hc => ?_) (fun hc => ?_)
      · have hq := hq.1 hc
        exact hq _ _ _ hP hD hS (lv_sub hl [] rfl)
      · have hq := hq.2 hc
        refine lv_aload_n hx hb dX4_readWork_137 rfl (lv_at hl 0 rfl) ?_
        have hPc := hP.sub (ws' := [(aT, .inr (3, [.ref aCH, .int wlen, .int wpos__12, .int r_1, .int wcol__13, .int wrow__14, .int wnum])), (aCH, .inl (cI, 60, .inl chs))]) [0, 1] rfl
        have hDc := hD.sub (ws' := [(aT, .inr (3, [.ref aCH, .int wlen, .int wpos__12, .int r_1, .int wcol__13, .int wrow__14, .int wnum])), (aCH, .inl (cI, 60, .inl chs))]) [0, 1] (by decide) rfl
        have hFc := va_free (wc := [(aT, .inr (3, [.ref aCH, .int wlen, .int wpos__12, .int r_1, .int wcol__13, .int wrow__14, .int wnum])), (aCH, .inl (cI, 60, .inl chs))]) hD hS hA [0, 1] rfl
        refine va_calli (va_runV (As := []) (rest := []) ⟨hx, hb, hml, hown, hts⟩ (c_X4_readDepth l dC dI cI cC cS aT aCH _ wlen wpos__12 r_1 wcol__13 wrow__14 wnum chs hq) (cwV 0 hts gX4_readWork_X4_readDepth rfl rfl rfl (by decide +kernel) ⟨Nat.le_of_ble_eq_true rfl, Nat.le_of_ble_eq_true rfl⟩) (gn_preV hPc hK hN hDc (ci := 3) (q0 := 0) rfl rfl) rfl rfl hl.1 rfl (lv_room (Nat.le_of_ble_eq_true rfl)) dX4_readWork_138 ⟨Nat.zero_le _, Nat.zero_le _⟩) hS (fun q _ h => hFc q h) hFc (fun r_17 u t H1 locs ht hvm hq hB hz1 hk1 hS => ?_)
        obtain ⟨wpos__18, wnum__19⟩ := u
        obtain ⟨hP1, hK1, hD1⟩ := hB
        rw [ht] at hP1
        try dsimp only at hq
        obtain ⟨hP, hD⟩ := va_join (wr := []) (w1 := [(aT, .inr (3, [.ref aCH, .int wlen, .int wpos__18, .int r_1, .int wcol__13, .int wrow__14, .int wnum__19])), (aCH, .inl (cI, 60, .inl chs))]) hP hD [0, 1] [] rfl rfl (by decide) (by decide) hk1 hFc hP1 hD1
        have hP := hP.sub (ws' := [(aT, .inr (3, [.ref aCH, .int wlen, .int wpos__18, .int r_1, .int wcol__13, .int wrow__14, .int wnum__19])), (aCH, .inl (cI, 60, .inl chs))]) [0, 1] rfl
        have hD := hD.sub (ws' := [(aT, .inr (3, [.ref aCH, .int wlen, .int wpos__18, .int r_1, .int wcol__13, .int wrow__14, .int wnum__19])), (aCH, .inl (cI, 60, .inl chs))]) [0, 1] (by decide) rfl
        generalize H1 = H at hP hS ⊢
        refine lv_if_eq (tgt := 148) hx hb dX4_readWork_141 (by decide) (fun hc => ?_) (fun hc => ?_)
        · have hq := hq.1 hc
          exact hq _ _ _ hP hD hS (lv_sub hl [] rfl)
        · have hq := hq.2 hc
          refine lv_iconst (v := 1) hx hb dX4_readWork_144 (by decide) ?_
          refine lv_goto (tgt := 149) hx hb dX4_readWork_145 (by decide) ?_
          have hz := hq.1
          have hq := hq.2
          exact hret _ _ _ _ _ _ _ _ _ _ dX4_readWork_149 hP hD hS hz hq
    · have hc : r_1 = (81 : Int32) := hj2.trans (by decide)
      have hq := hq.2.2.2.2.2.2.2.2.2.2.2.2.2.2.2.1 hc
      refine lv_tableIn (off := 168) (tgt := 180) hx hb dX4_readWork_12 (by rw [hc]; decide) (by rw [hc]; decide) (by rw [hc]; rfl) (by decide) ?_
      exact hq _ _ _ hP hD hS (lv_sub hl [] rfl)
    · have hc : r_1 = (82 : Int32) := hj2.trans (by decide)
      have hq := hq.2.2.2.2.2.2.2.2.2.2.2.2.2.2.2.2.1 hc
      refine lv_tableIn (off := 96) (tgt := 108) hx hb dX4_readWork_12 (by rw [hc]; decide) (by rw [hc]; decide) (by rw [hc]; rfl) (by decide) ?_
      exact hq _ _ _ hP hD hS (lv_sub hl [0] rfl)
    · have hc : r_1 = (83 : Int32) := hj2.trans (by decide)
      have hq := hq.2.2.2.2.2.2.2.2.2.2.2.2.2.2.2.2.2.1 hc
      refine lv_tableIn (off := 168) (tgt := 180) hx hb dX4_readWork_12 (by rw [hc]; decide) (by rw [hc]; decide) (by rw [hc]; rfl) (by decide) ?_
      exact hq _ _ _ hP hD hS (lv_sub hl [] rfl)
    · have hc : r_1 = (84 : Int32) := hj2.trans (by decide)
      have hq := hq.2.2.2.2.2.2.2.2.2.2.2.2.2.2.2.2.2.2.1 hc
      refine lv_tableIn (off := 96) (tgt := 108) hx hb dX4_readWork_12 (by rw [hc]; decide) (by rw [hc]; decide) (by rw [hc]; rfl) (by decide) ?_
      exact hq _ _ _ hP hD hS (lv_sub hl [0] rfl)
    · have hc : r_1 = (85 : Int32) := hj2.trans (by decide)
      have hq := hq.2.2.2.2.2.2.2.2.2.2.2.2.2.2.2.2.2.2.2 hc
      refine lv_tableIn (off := 96) (tgt := 108) hx hb dX4_readWork_12 (by rw [hc]; decide) (by rw [hc]; decide) (by rw [hc]; rfl) (by decide) ?_
      exact hq _ _ _ hP hD hS (lv_sub hl [0] rfl)
set_option maxRecDepth 20000 in
theorem kwX4_firstError_19 : Cond.fieldLink RX4 19 "PunchedFolds$Works" "position" "I" ∈ wsX4_firstError := by decide +kernel
set_option maxRecDepth 20000 in
theorem iwX4_firstError_X4 : ∀ w ∈ wsX40, w ∈ wsX4_firstError := by decide +kernel
set_option maxRecDepth 20000 in
theorem kwX4_firstError_15 : Cond.fieldLink RX4 15 "PunchedFolds$Works" "length" "I" ∈ wsX4_firstError := by decide +kernel
set_option maxHeartbeats 4000000 in
set_option maxRecDepth 100000 in
theorem c_X4_firstError (l : Launch) (dC : Nat → ClassId) (dI : Nat → Nat → Nat) (cI cC cS : ClassId) (aT : Nat) (aCH : Nat) (sz : Nat) (wlen : Int32) (wpos : Int32) (wlet : Int32) (wcol : Int32) (wrow : Int32) (wnum : Int32) (chs : Nat → Int32) {post : Int32 → Int32 → Int32 → Int32 → Int32 → Int32 → Prop} (hq : wp_X4_firstError wlen wpos wlet wcol wrow wnum chs post) : Met l yX4_firstError wsX4_firstError ({ frames := 4, cells := 0, slots := 0, locals := 85 } : Room) (gn_Pre (dC, dI) cI cC cS [.ref aT] sz [(aT, .inr (3, [.ref aCH, .int wlen, .int wpos, .int wlet, .int wcol, .int wrow, .int wnum])), (aCH, .inl (cI, 60, .inl chs))]) (va_Qi (fun (r : Int32) (u : Int32 × Int32 × Int32 × Int32 × Int32) => post r u.1 u.2.1 u.2.2.1 u.2.2.2.1 u.2.2.2.2) (fun (u : Int32 × Int32 × Int32 × Int32 × Int32) t => va_P (dC, dI) vwCl [(aT, .inr (3, [.ref aCH, .int wlen, .int u.1, .int u.2.1, .int u.2.2.1, .int u.2.2.2.1, .int u.2.2.2.2])), (aCH, .inl (cI, 60, .inl chs))] t.heap ∧ va_K (dC, dI) vwCl (gn_tys cI cC cS) t ∧ va_D (va_A [(aT, .inr (3, [.ref aCH, .int wlen, .int wpos, .int wlet, .int wcol, .int wrow, .int wnum])), (aCH, .inl (cI, 60, .inl chs))] sz) [(aT, .inr (3, [.ref aCH, .int wlen, .int u.1, .int u.2.1, .int u.2.2.1, .int u.2.2.2.1, .int u.2.2.2.2])), (aCH, .inl (cI, 60, .inl chs))]) (va_A [(aT, .inr (3, [.ref aCH, .int wlen, .int wpos, .int wlet, .int wcol, .int wrow, .int wnum])), (aCH, .inl (cI, 60, .inl chs))] sz)) 0 0 (va_A [(aT, .inr (3, [.ref aCH, .int wlen, .int wpos, .int wlet, .int wcol, .int wrow, .int wnum])), (aCH, .inl (cI, 60, .inl chs))] sz) := by
  unfold wp_X4_firstError at hq
  refine Met.ofW (cc := cX4_firstError) (maxL := 3) (ret := (some .int)) (by decide) rfl ?_
  intro p e s m args below meth c s₁ B hml hv
  obtain ⟨rfl, hsz, hP, hK, hN, hD0⟩ := hv
  have hx := B.exec
  have hb := B.bytes
  have hr := B.returns
  have hts := atoms_spec (ws := wsX4_firstError) B.pre
  have hown : s.vm.findClass RX4 = some m.cls := findClass_of_methodNamed B.named
  have hlocks := B.notSynchronized
  subst hsz
  have hD := hD0.self (sz := s.heap.size)
  generalize hAe : va_A [(aT, .inr (3, [.ref aCH, .int wlen, .int wpos, .int wlet, .int wcol, .int wrow, .int wnum])), (aCH, .inl (cI, 60, .inl chs))] s.heap.size = A at hD ⊢
  have hA : ∀ q : Nat, s.heap.size ≤ q → A q := fun q h => by rw [← hAe]; exact Or.inr h
  have hS : va_S A s.heap s.heap [] := va_S.rf
  have hl := lv_entry ([.ref aT] : List Value) (n := 3) (Nat.le_of_ble_eq_true rfl)
  rw [lg_entry_eq]
  generalize (lg_sl ([.ref aT] : List Value) ++ List.replicate (3 - (lg_sl ([.ref aT] : List Value)).length) Slot.unset).toArray = ls at hl ⊢
  have hl : lv_has ls 3 [(0, .ref aT)] := hl
  refine gn_Q (hret := fun Q => ∀ (pc : Nat) (ls : Array Slot) (H : Heap) (locs : List Loc) (r : Int32) (m_wpos : Int32) (m_wlet : Int32) (m_wcol : Int32) (m_wrow : Int32) (m_wnum : Int32), decode cX4_firstError pc = .ok (.ireturn, 1) → va_P (dC, dI) vwCl [(aT, .inr (3, [.ref aCH, .int wlen, .int m_wpos, .int m_wlet, .int m_wcol, .int m_wrow, .int m_wnum])), (aCH, .inl (cI, 60, .inl chs))] H → va_D A [(aT, .inr (3, [.ref aCH, .int wlen, .int m_wpos, .int m_wlet, .int m_wcol, .int m_wrow, .int m_wnum])), (aCH, .inl (cI, 60, .inl chs))] → va_S A s.heap H locs → post r m_wpos m_wlet m_wcol m_wrow m_wnum → W p l e ({ frames := 4, cells := 0, slots := 0, locals := 85 } : Room) s m ([.ref aT] : List Value).toArray below meth c H locs 0 0 Q (F0 m pc ls [.int r])) (fun Q hret => ?_) ?_
  rotate_left
  · intro pc ls H locs r m_wpos m_wlet m_wcol m_wrow m_wnum hdg hP hD hS hpost
    exact W.iret (v := r) hx hb hr (fun t ht hW => ⟨⟨r, (m_wpos, m_wlet, m_wcol, m_wrow, m_wnum), rfl, hpost, by rw [ht]; exact hP, va_K.moved hW.alike hK, hD⟩, hS.F ht⟩) hS.2.2 hdg
  refine lv_aload_n hx hb dX4_firstError_0 rfl (lv_at hl 0 rfl) ?_
  refine lv_iconst (v := 0) hx hb dX4_firstError_1 (by decide) ?_
  refine va_put (D := (dC, dI)) (ci := 3) (v := .int (0 : Int32)) (ty := .int) (C := RX4) (T := TX4) (N := 7) hx hb hts iwX4_firstError_X4 tyX4 tyX4_ok nmX4 hown hK hP hD hS 0 rfl rfl 2 (by decide) (hts _ kwX4_firstError_19) (fun _ h9 => h9) rfl (by decide +kernel) rfl rfl (Nat.le_of_ble_eq_true rfl) dX4_firstError_2 (fun H locs hP hD hS => ?_)
  have hP : va_P (dC, dI) vwCl [(aT, .inr (3, [.ref aCH, .int wlen, .int (0 : Int32), .int wlet, .int wcol, .int wrow, .int wnum])), (aCH, .inl (cI, 60, .inl chs))] H := hP
  have hD : va_D A [(aT, .inr (3, [.ref aCH, .int wlen, .int (0 : Int32), .int wlet, .int wcol, .int wrow, .int wnum])), (aCH, .inl (cI, 60, .inl chs))] := hD
  refine lv_aload_n hx hb dX4_firstError_5 rfl (lv_at hl 0 rfl) ?_
  have hPc := hP.sub (ws' := [(aT, .inr (3, [.ref aCH, .int wlen, .int (0 : Int32), .int wlet, .int wcol, .int wrow, .int wnum])), (aCH, .inl (cI, 60, .inl chs))]) [0, 1] rfl
  have hDc := hD.sub (ws' := [(aT, .inr (3, [.ref aCH, .int wlen, .int (0 : Int32), .int wlet, .int wcol, .int wrow, .int wnum])), (aCH, .inl (cI, 60, .inl chs))]) [0, 1] (by decide) rfl
  have hFc := va_free (wc := [(aT, .inr (3, [.ref aCH, .int wlen, .int (0 : Int32), .int wlet, .int wcol, .int wrow, .int wnum])), (aCH, .inl (cI, 60, .inl chs))]) hD hS hA [0, 1] rfl
  refine va_calli (va_runV (As := []) (rest := []) ⟨hx, hb, hml, hown, hts⟩ (c_X4_readWork l dC dI cI cC cS aT aCH _ wlen (0 : Int32) wlet wcol wrow wnum chs hq) (cwV 0 hts gX4_firstError_X4_readWork rfl rfl rfl (by decide +kernel) ⟨Nat.le_of_ble_eq_true rfl, Nat.le_of_ble_eq_true rfl⟩) (gn_preV hPc hK hN hDc (ci := 3) (q0 := 0) rfl rfl) rfl rfl hl.1 rfl (lv_room (Nat.le_of_ble_eq_true rfl)) dX4_firstError_6 ⟨Nat.zero_le _, Nat.zero_le _⟩) hS (fun q _ h => hFc q h) hFc (fun r_1 u t H1 locs ht hvm hq hB hz1 hk1 hS => ?_)
  obtain ⟨wpos__2, wlet__3, wcol__4, wrow__5, wnum__6⟩ := u
  obtain ⟨hP1, hK1, hD1⟩ := hB
  rw [ht] at hP1
  try dsimp only at hq
  obtain ⟨hP, hD⟩ := va_join (wr := []) (w1 := [(aT, .inr (3, [.ref aCH, .int wlen, .int wpos__2, .int wlet__3, .int wcol__4, .int wrow__5, .int wnum__6])), (aCH, .inl (cI, 60, .inl chs))]) hP hD [0, 1] [] rfl rfl (by decide) (by decide) hk1 hFc hP1 hD1
  have hP := hP.sub (ws' := [(aT, .inr (3, [.ref aCH, .int wlen, .int wpos__2, .int wlet__3, .int wcol__4, .int wrow__5, .int wnum__6])), (aCH, .inl (cI, 60, .inl chs))]) [0, 1] rfl
  have hD := hD.sub (ws' := [(aT, .inr (3, [.ref aCH, .int wlen, .int wpos__2, .int wlet__3, .int wcol__4, .int wrow__5, .int wnum__6])), (aCH, .inl (cI, 60, .inl chs))]) [0, 1] (by decide) rfl
  generalize H1 = H at hP hS ⊢
  refine lv_istore_n (lv' := [(1, .int r_1), (0, .ref aT)]) hx hb dX4_firstError_9 rfl hl (by decide) rfl (fun ls hl => ?_)
  refine lv_iconst (v := 1) hx hb dX4_firstError_10 (by decide) ?_
  refine lv_istore_n (lv' := [(2, .int (1 : Int32)), (1, .int r_1), (0, .ref aT)]) hx hb dX4_firstError_11 rfl hl (by decide) rfl (fun ls hl => ?_)
  have hq := hq (fun (v1_7 : Int32) (v2_8 : Int32) (wpos__9 : Int32) (wlet__10 : Int32) (wcol__11 : Int32) (wrow__12 : Int32) (wnum__13 : Int32) => ∀ (H : Heap) (locs : List Loc) (ls : Array Slot), va_P (dC, dI) vwCl [(aT, .inr (3, [.ref aCH, .int wlen, .int wpos__9, .int wlet__10, .int wcol__11, .int wrow__12, .int wnum__13])), (aCH, .inl (cI, 60, .inl chs))] H → va_D A [(aT, .inr (3, [.ref aCH, .int wlen, .int wpos__9, .int wlet__10, .int wcol__11, .int wrow__12, .int wnum__13])), (aCH, .inl (cI, 60, .inl chs))] → va_S A s.heap H locs → lv_has ls 3 [(0, .ref aT), (1, .int v1_7), (2, .int v2_8)] → W p l e ({ frames := 4, cells := 0, slots := 0, locals := 85 } : Room) s m ([.ref aT] : List Value).toArray below meth c H locs 0 0 Q (F0 m 12 ls [])) (by
    intro v1_7 v2_8 wpos__9 wlet__10 wcol__11 wrow__12 wnum__13 hq H locs ls hP hD hS hl
    refine lv_iload_n hx hb dX4_firstError_12 rfl (lv_at hl 2 rfl) ?_
    refine lv_bipush (v := 60) hx hb dX4_firstError_13 (by decide) ?_
    have hq := hq (∀ (H : Heap) (locs : List Loc) (ls : Array Slot), va_P (dC, dI) vwCl [(aT, .inr (3, [.ref aCH, .int wlen, .int wpos__9, .int wlet__10, .int wcol__11, .int wrow__12, .int wnum__13])), (aCH, .inl (cI, 60, .inl chs))] H → va_D A [(aT, .inr (3, [.ref aCH, .int wlen, .int wpos__9, .int wlet__10, .int wcol__11, .int wrow__12, .int wnum__13])), (aCH, .inl (cI, 60, .inl chs))] → va_S A s.heap H locs → lv_has ls 3 [(0, .ref aT), (1, .int v1_7)] → W p l e ({ frames := 4, cells := 0, slots := 0, locals := 85 } : Room) s m ([.ref aT] : List Value).toArray below meth c H locs 0 0 Q (F0 m 44 ls [])) (by
      intro  hq H locs ls hP hD hS hl
      refine lv_iload_n hx hb dX4_firstError_44 rfl (lv_at hl 1 rfl) ?_
      refine lv_if_eq (tgt := 53) hx hb dX4_firstError_45 (by decide) (fun hc => ?_) (fun hc => ?_)
      · have hq := hq.1 hc
        refine lv_aload_n hx hb dX4_firstError_53 rfl (lv_at hl 0 rfl) ?_
        refine va_get (D := (dC, dI)) (ci := 3) (v := .int wpos__9) (C := RX4) (T := TX4) (N := 7) hx hb hts iwX4_firstError_X4 hown hK hP 0 rfl rfl 2 (by decide) (hts _ kwX4_firstError_19) (fun _ h9 => h9) rfl dX4_firstError_54 ?_
        exact hret _ _ _ _ _ _ _ _ _ _ dX4_firstError_57 hP hD hS hq
      · have hq := hq.2 hc
        refine lv_bipush (v := -6) hx hb dX4_firstError_48 (by decide) ?_
        refine lv_goto (tgt := 57) hx hb dX4_firstError_50 (by decide) ?_
        exact hret _ _ _ _ _ _ _ _ _ _ dX4_firstError_57 hP hD hS hq)
    refine lv_icmp_ge (tgt := 44) hx hb dX4_firstError_15 (by decide) (fun hc => ?_) (fun hc => ?_)
    · have hq := hq.1 hc
      exact hq _ _ _ hP hD hS (lv_sub hl [0, 1] rfl)
    · have hq := hq.2 hc
      refine lv_iload_n hx hb dX4_firstError_18 rfl (lv_at hl 1 rfl) ?_
      refine lv_if_eq (tgt := 44) hx hb dX4_firstError_19 (by decide) (fun hc => ?_) (fun hc => ?_)
      · have hq := hq.1 hc
        exact hq _ _ _ hP hD hS (lv_sub hl [0, 1] rfl)
      · have hq := hq.2 hc
        refine lv_aload_n hx hb dX4_firstError_22 rfl (lv_at hl 0 rfl) ?_
        refine va_get (D := (dC, dI)) (ci := 3) (v := .int wpos__9) (C := RX4) (T := TX4) (N := 7) hx hb hts iwX4_firstError_X4 hown hK hP 0 rfl rfl 2 (by decide) (hts _ kwX4_firstError_19) (fun _ h9 => h9) rfl dX4_firstError_23 ?_
        refine lv_aload_n hx hb dX4_firstError_26 rfl (lv_at hl 0 rfl) ?_
        refine va_get (D := (dC, dI)) (ci := 3) (v := .int wlen) (C := RX4) (T := TX4) (N := 7) hx hb hts iwX4_firstError_X4 hown hK hP 0 rfl rfl 1 (by decide) (hts _ kwX4_firstError_15) (fun _ h9 => h9) rfl dX4_firstError_27 ?_
        refine lv_icmp_ge (tgt := 44) hx hb dX4_firstError_30 (by decide) (fun hc => ?_) (fun hc => ?_)
        · have hq := hq.1 hc
          exact hq _ _ _ hP hD hS (lv_sub hl [0, 1] rfl)
        · have hq := hq.2 hc
          refine lv_aload_n hx hb dX4_firstError_33 rfl (lv_at hl 0 rfl) ?_
          have hPc := hP.sub (ws' := [(aT, .inr (3, [.ref aCH, .int wlen, .int wpos__9, .int wlet__10, .int wcol__11, .int wrow__12, .int wnum__13])), (aCH, .inl (cI, 60, .inl chs))]) [0, 1] rfl
          have hDc := hD.sub (ws' := [(aT, .inr (3, [.ref aCH, .int wlen, .int wpos__9, .int wlet__10, .int wcol__11, .int wrow__12, .int wnum__13])), (aCH, .inl (cI, 60, .inl chs))]) [0, 1] (by decide) rfl
          have hFc := va_free (wc := [(aT, .inr (3, [.ref aCH, .int wlen, .int wpos__9, .int wlet__10, .int wcol__11, .int wrow__12, .int wnum__13])), (aCH, .inl (cI, 60, .inl chs))]) hD hS hA [0, 1] rfl
          refine va_calli (va_runV (As := []) (rest := []) ⟨hx, hb, hml, hown, hts⟩ (c_X4_readWork l dC dI cI cC cS aT aCH _ wlen wpos__9 wlet__10 wcol__11 wrow__12 wnum__13 chs hq) (cwV 0 hts gX4_firstError_X4_readWork rfl rfl rfl (by decide +kernel) ⟨Nat.le_of_ble_eq_true rfl, Nat.le_of_ble_eq_true rfl⟩) (gn_preV hPc hK hN hDc (ci := 3) (q0 := 0) rfl rfl) rfl rfl hl.1 rfl (lv_room (Nat.le_of_ble_eq_true rfl)) dX4_firstError_34 ⟨Nat.zero_le _, Nat.zero_le _⟩) hS (fun q _ h => hFc q h) hFc (fun r_14 u t H1 locs ht hvm hq hB hz1 hk1 hS => ?_)
          obtain ⟨wpos__15, wlet__16, wcol__17, wrow__18, wnum__19⟩ := u
          obtain ⟨hP1, hK1, hD1⟩ := hB
          rw [ht] at hP1
          try dsimp only at hq
          obtain ⟨hP, hD⟩ := va_join (wr := []) (w1 := [(aT, .inr (3, [.ref aCH, .int wlen, .int wpos__15, .int wlet__16, .int wcol__17, .int wrow__18, .int wnum__19])), (aCH, .inl (cI, 60, .inl chs))]) hP hD [0, 1] [] rfl rfl (by decide) (by decide) hk1 hFc hP1 hD1
          have hP := hP.sub (ws' := [(aT, .inr (3, [.ref aCH, .int wlen, .int wpos__15, .int wlet__16, .int wcol__17, .int wrow__18, .int wnum__19])), (aCH, .inl (cI, 60, .inl chs))]) [0, 1] rfl
          have hD := hD.sub (ws' := [(aT, .inr (3, [.ref aCH, .int wlen, .int wpos__15, .int wlet__16, .int wcol__17, .int wrow__18, .int wnum__19])), (aCH, .inl (cI, 60, .inl chs))]) [0, 1] (by decide) rfl
          generalize H1 = H at hP hS ⊢
          refine lv_istore_n (lv' := [(1, .int r_14), (0, .ref aT), (2, .int v2_8)]) hx hb dX4_firstError_37 rfl hl (by decide) rfl (fun ls hl => ?_)
          refine lv_iinc (v := (v2_8 + (1 : Int32))) (lv' := [(2, .int (v2_8 + (1 : Int32))), (1, .int r_14), (0, .ref aT)]) hx hb dX4_firstError_38 hl (k := 2) rfl rfl (by decide) rfl (fun ls hl => ?_)
          refine lv_goto (tgt := 12) hx hb dX4_firstError_41 (by decide) ?_
          exact hq _ _ _ hP hD hS (lv_sub hl [2, 1, 0] rfl))
  exact hq _ _ _ hP hD hS (lv_sub hl [2, 1, 0] rfl)
