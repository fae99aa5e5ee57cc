/-! THE LAW'S LOOP: each turn keeps book and rows alike -/
def RK (ct : CV) (hi : HV) (pd : PV) (ra rb rc : Nat → Int32) : Prop := ∃ b, OKb b ∧ CR ct b ∧ (∃ hh z, HC hi hh z) ∧ (∃ c m, PC pd c m) ∧ QP ra rb b ∧ QW rc b
theorem wp_jn {T β : Type} {J : T} {body : T → Option β} {P : β → Prop} (Q : T → Prop) (hJ : Q J) (hb : ∀ J', Q J' → wp (body J') P) : wp (jn J body) P := hb J hJ
theorem RK_same {ct : CV} {hi : HV} {pd : PV} {ra rb rc : Nat → Int32} {N : Nat} (hN : 200 < N) (h : RK ct hi pd ra rb rc) (lt : LV) (bc : BV) (ac : AV) (bn cw rd re : Nat → Int32) : wp (f_L_same N ct hi pd lt bc ac bn cw ra rb rd re rc) (fun r => r.1 = 1) := by
  obtain ⟨b, ob, oc, -, -, oq, or_⟩ := h
  exact same_ok hN ob oc oq or_ lt bc ac bn cw rd re
theorem addB_QW {rc : Nat → Int32} {b : bk} (h : QW rc b) (h16 : b 0 < 16) (a : Nat → Nat) (n wt : Nat) : QW rc (addB b a n wt) := QW_hi h (addB_1 b a n wt) (fun k hk => addB_hi h16 hk)
set_option maxHeartbeats 4000000 in
theorem law_L50 {N : Nat} (hN : 2000 < N) {L : Nat} {xs : Nat → Int32} {g : Nat} (hg : 2 ≤ g ∧ g ≤ 3) {K : CV → HV → PV → LV → BV → AV → (Nat → Int32) → (Nat → Int32) → (Nat → Int32) → (Nat → Int32) → (Nat → Int32) → (Nat → Int32) → (Nat → Int32) → Option Int32} (hK : ∀ ct hi pd lt bc ac bn cw ra rb rd re rc, wp (K ct hi pd lt bc ac bn cw ra rb rd re rc) (fun o => o = 1)) : ∀ (f t : Nat) (ct : CV) (hi : HV) (pd : PV) (lt : LV) (bc : BV) (ac : AV) (bn cw ra rb rd re rc : Nat → Int32), t ≤ 16 → 16 - t < f → RK ct hi pd ra rb rc → wp (f_L_law_L50 N L xs (nI g) K f (nI t) ct hi pd lt bc ac bn cw ra rb rd re rc) (fun o => o = 1)
  | 0, _, _, _, _, _, _, _, _, _, _, _, _, _, _, _, h, _ => by omega
  | f + 1, t, ct, hi, pd, lt, bc, ac, bn, cw, ra, rb, rd, re, rc, ht, hf, hR => by
    have hN2 : 200 < N := by omega
    rw [f_L_law_L50]
    by_cases q : 16 ≤ t
    · rw [if_pos (show (16 : Int32) ≤ nI t from nI_le (a := 16) q (by omega))]
      exact hK _ _ _ _ _ _ _ _ _ _ _ _ _
    · have hrec : ∀ ct hi pd lt bc ac bn cw ra rb rd re rc, RK ct hi pd ra rb rc → wp (f_L_law_L50 N L xs (nI g) K f (nI (t + 1)) ct hi pd lt bc ac bn cw ra rb rd re rc) (fun o => o = 1) := fun ct hi pd lt bc ac bn cw ra rb rd re rc h => law_L50 hN hg hK f (t + 1) ct hi pd lt bc ac bn cw ra rb rd re rc (by omega) (by omega) h
      rw [if_neg (show ¬ (16 : Int32) ≤ nI t from nI_ge (b := 16) (by omega) (by decide)), q_1a, nI_1]
      unfold sck
      rw [if_neg (show ¬ nI (1 + t) < 0 from nI_pos (by omega)), q_bd]
      generalize cellv L xs (nI (1 + t)) = x
      obtain ⟨j, hj, ej⟩ := low_ok N x (n := 8) (by decide) (by decide)
      refine wp_bindE ej ?_
      refine wp_jn (fun J => ∀ ct hi pd lt bc ac bn cw ra rb rd re rc, RK ct hi pd ra rb rc → wp (J ct hi pd lt bc ac bn cw ra rb rd re rc) (fun o => o = 1)) (fun ct hi pd lt bc ac bn cw ra rb rd re rc h => ?_) (fun J714 hJ => ?_)
      · refine wp_bind (wp_mono (RK_same hN2 h lt bc ac bn cw rd re) (fun r hr => ?_))
        rw [hr, if_neg n10]
        exact hrec _ _ _ _ _ _ _ _ _ _ _ _ _ h
      have hR0 := hR
      obtain ⟨b, ob, oc, ⟨hh, z, oh⟩, ⟨c, m, op⟩, oq, or_⟩ := hR
      have h8 := oq.2.2.1
      have h3 := or_.1
      have e0 : ra ((0 : Int32).toNatClampNeg) = nI (b 0) := oq.1
      have e1 : ra ((1 : Int32).toNatClampNeg) = nI (b 1) := oq.2.1
      by_cases q3 : 3 ≤ j
      · rw [if_pos (show (3 : Int32) ≤ nI j from nI_le (a := 3) q3 (by omega))]
        refine wp_jn (fun J => wp (J ()) (fun o => o = 1)) ?_ (fun J223 hJ2 => ?_)
        · -- a word
          obtain ⟨j1, hj1, f1⟩ := low_ok N (x >>> (8 &&& 31)) (n := 7) (by decide) (by decide)
          refine wp_bindE f1 ?_
          rw [q_1a]
          obtain ⟨a, ha, f2⟩ := text_ok hN2 (x >>> (4 &&& 31)) (n := 1 + j1) (g := g) (by omega) (by omega) (by omega)
          refine wp_bindE f2 ?_
          obtain ⟨j3, hj3, f3⟩ := low_ok N (x >>> (11 &&& 31)) (n := 99) (by decide) (by decide)
          refine wp_bindE f3 ?_
          rw [q_1a, q_bd, q_ck1 (by decide) (by decide), e1]
          refine wp_jn (fun J => ∀ ct hi ra rc b, OKb b → CR ct b → (∃ hh z, HC hi hh z) → QP ra rb b → QW rc b → b 1 < 3 → wp (J ct hi ra rc) (fun o => o = 1)) (fun ct hi ra rc b ob oc oh oq or_ hb3 => ?_) (fun J324 hJ3 => ?_)
          · have h8 := oq.2.2.1
            have e1 : ra ((1 : Int32).toNatClampNeg) = nI (b 1) := oq.2.1
            obtain ⟨hh, z, oh⟩ := oh
            refine wp_bind (wp_mono (puts_ok hN2 ha op) (fun r hr => ?_))
            rw [hr.1, if_neg n10]
            refine wp_bind (wp_mono (cword_ok hN2 ob oc oh ha (by omega) (by omega) (m := 1 + j3) (by omega) (by omega) hr.2) (fun r2 hr2 => ?_))
            obtain ⟨g1, g2, g3, g4, g5⟩ := hr2
            rw [q_ck1 (by decide) (by decide), e1, if_pos g1, q_ck1 (by decide) (by decide), show (2 : Int32) = nI 2 from rfl, pk_mul, nI_1, nI_1, q_ck (show 2 * b 1 < 6 by omega) (by decide), q_ck1 (by decide) (by decide), q_ck1 (by decide) (by decide), q_ck (show 2 * b 1 + 1 < 6 by omega) (by decide), nI_clamp (show 2 * b 1 < 2 ^ 31 by omega), nI_clamp (show 2 * b 1 + 1 < 2 ^ 31 by omega)]
            refine hJ _ _ _ _ _ _ _ _ _ _ _ _ _ ⟨_, g2, g3, g4, g5, ?_, QW_addW or_ hb3 ha.1⟩
            refine QP_lo ob oq (fun k k1 k98 => addW_lo k1 k98) (upd_o (f := ra) (k := 1) (j := 0) (by decide)) ?_
            rw [addW_1]
            exact upd_s ra 1 _
          · by_cases q4 : b 1 = 3
            · rw [if_pos (show nI (b 1) = (3 : Int32) from congrArg nI q4)]
              obtain ⟨w, hw, f4⟩ := low_ok N (x >>> (17 &&& 31)) (n := 3) (by decide) (by decide)
              refine wp_bindE f4 ?_
              refine wp_bind (wp_mono (cforget_ok ob oc oh (show w < b 1 by omega)) (fun r hr => ?_))
              obtain ⟨g1, g2, g3, g4⟩ := hr
              rw [if_pos (show r.1 = (2 : Int32) by rw [g1, q4]; rfl), q_bd, show (2 : Int32) * nI w = nI (2 * w) from pk_mul 2 w]
              refine law_L296 (N := N) (fun rc2 hrc => ?_) N (2 * w) rc (Nat.le_refl _) (by omega) (by omega) (fun j => by rw [if_neg (by omega)])
              rw [q_ck1 (by decide) (by decide)]
              refine hJ3 _ _ _ _ _ g2 g3 g4 ?_ (QW_frB or_ q4 hrc) (by rw [frB_1]; omega)
              refine QP_lo ob oq (fun k k1 k98 => frB_lo k1 k98) (upd_o (f := ra) (k := 1) (j := 0) (by decide)) ?_
              rw [frB_1, q4]
              exact upd_s ra 1 _
            · rw [if_neg (show ¬ nI (b 1) = (3 : Int32) from fun y => q4 ((nI_eq (b := 3) (by omega) (by decide)).1 y))]
              exact hJ3 _ _ _ _ b ob oc ⟨_, _, oh⟩ oq or_ (by omega)
        · by_cases c3 : nI j = (3 : Int32)
          · rw [if_pos c3]; exact hJ2
          · rw [if_neg c3]
            by_cases c4 : nI j = (4 : Int32)
            · rw [if_pos c4]; exact hJ2
            · rw [if_neg c4]
              refine wp_jn (fun J => wp (J ()) (fun o => o = 1)) ?_ (fun J449 hJ4 => ?_)
              · refine wp_jn (fun J => wp (J ()) (fun o => o = 1)) ?_ (fun J650 hJ6 => ?_)
                · by_cases c7 : nI j = (7 : Int32)
                  · -- a book of a told size
                    rw [if_pos c7]
                    obtain ⟨u, hu, f1⟩ := low_ok N (x >>> (3 &&& 31)) (n := 9) (by decide) (by decide)
                    refine wp_bindE f1 ?_
                    refine law_L671 (N := N) hN2 hu (b 0 - u) N 0 b ra rb rd re ob oq or_ rfl (by omega) (fun ra2 rb2 rd2 re2 k1 k2 => ?_)
                    refine wp_bind (wp_mono (cshrink_ok hN ob oc oh (show u ≤ 16 by omega) lt bc cw) (fun r hr => ?_))
                    obtain ⟨g1, g2, g3, g4⟩ := hr
                    rw [if_pos (g1.trans (congrArg nI (Nat.zero_add _).symm))]
                    exact hJ _ _ _ _ _ _ _ _ _ _ _ _ _ ⟨_, g2, g3, g4, ⟨c, m, op⟩, k1, k2⟩
                  · rw [if_neg c7]
                    exact hJ _ _ _ _ _ _ _ _ _ _ _ _ _ hR0
                · by_cases c6 : nI j = (6 : Int32)
                  · rw [if_pos c6, q_ck0 (by decide) (by decide), e0]
                    by_cases z0 : b 0 = 0
                    · rw [if_pos (show nI (b 0) ≤ (0 : Int32) by rw [z0]; decide)]
                      exact hJ6
                    · rw [if_neg (nI_nle (show 0 < b 0 by omega) (by omega))]
                      refine law_L471 (N := N) hN2 ob oq or_ (fun re2 hre => ?_) N 0 re (Nat.zero_le _) (by omega) (fun q hq => by omega)
                      refine law_L565 (N := N) (rb0 := rb) ob oq hre (fun rb2 hrb => ?_) N 0 rb (Nat.zero_le _) (by omega) (fun q hq => by omega) (fun q _ hq => oq.2.2.2 q hq)
                      refine wp_bind (wp_mono (ctune_ok hN2 ob oc oh lt ac bn) (fun r hr => ?_))
                      obtain ⟨g1, g2, g3, g4⟩ := hr
                      have t0 : tnB b 0 = b 0 := tnB_o (Or.inl (by omega))
                      have t1 : tnB b 1 = b 1 := tnB_o (Or.inl (by omega))
                      rw [if_pos g1]
                      refine hJ _ _ _ _ _ _ _ _ _ _ _ _ _ ⟨_, g2, g3, g4, ⟨c, m, op⟩, ⟨by rw [t0]; exact oq.1, by rw [t1]; exact oq.2.1, by rw [t0]; exact h8, fun p hp => ?_⟩, QW_hi or_ t1 (fun k hk => tnB_hi ob hk)⟩
                      rw [t0] at hp
                      have hv := (ob.2.2.1 p hp).2.1
                      have e3 : pTx (tnB b) p = pTx b p := by
                        unfold pTx
                        rw [tnB_L]
                        exact cod_congr _ (fun k hk => tnB_T (by omega))
                      rw [e3, tnB_W hp]
                      exact hrb p hp
                  · rw [if_neg c6]; exact hJ6
              · by_cases c5 : nI j = (5 : Int32)
                · rw [if_pos c5, q_ck0 (by decide) (by decide), e0]
                  by_cases z0 : b 0 = 0
                  · rw [if_pos (show nI (b 0) ≤ (0 : Int32) by rw [z0]; decide)]
                    exact hJ4
                  · rw [if_neg (nI_nle (show 0 < b 0 by omega) (by omega)), q_ck0 (by decide) (by decide)]
                    obtain ⟨p, hp, f1⟩ := low_ok N (x >>> (3 &&& 31)) (n := b 0) (by omega) (by omega)
                    refine wp_bindE f1 ?_
                    obtain ⟨j3, hj3, f3⟩ := low_ok N (x >>> (7 &&& 31)) (n := 9) (by decide) (by decide)
                    refine wp_bindE f3 ?_
                    rw [q_1a, q_bd]
                    refine wp_bind (wp_mono (cweigh_ok ob oc oh hp (wt := 1 + j3) (by omega) (by omega)) (fun r hr => ?_))
                    obtain ⟨g1, g2, g3, g4⟩ := hr
                    rw [show (2 : Int32) = nI 2 from rfl, pk_mul, nI_1 (2 * p), q_ck (show 2 * p + 1 < 16 by omega) (by decide), nI_clamp (show 2 * p + 1 < 2 ^ 31 by omega), (oq.2.2.2 p hp).2, if_pos g1, q_ck (show 2 * p + 1 < 16 by omega) (by decide)]
                    exact hJ _ _ _ _ _ _ _ _ _ _ _ _ _ ⟨_, g2, g3, g4, ⟨c, m, op⟩, QP_wgB ob oq hp, QW_hi or_ (wgB_o (by omega)) (fun k hk => wgB_o (by omega))⟩
                · rw [if_neg c5]; exact hJ4
      · -- a piece
        rw [if_neg (show ¬ (3 : Int32) ≤ nI j from nI_ge (b := 3) (by omega) (by decide))]
        obtain ⟨j1, hj1, f1⟩ := low_ok N (x >>> (3 &&& 31)) (n := 4) (by decide) (by decide)
        refine wp_bindE f1 ?_
        rw [q_1a]
        obtain ⟨a, ha, f2⟩ := text_ok hN2 (x >>> (5 &&& 31)) (n := 1 + j1) (g := g) (by omega) (by omega) (by omega)
        refine wp_bindE f2 ?_
        obtain ⟨j3, hj3, f3⟩ := low_ok N (x >>> (13 &&& 31)) (n := 9) (by decide) (by decide)
        refine wp_bindE f3 ?_
        rw [q_1a, q_bd, q_ck0 (by decide) (by decide), e0]
        by_cases q8 : b 0 = 8
        · rw [if_pos (show nI (b 0) = (8 : Int32) from congrArg nI q8)]
          exact hrec _ _ _ _ _ _ _ _ _ _ _ _ _ hR0
        · rw [if_neg (show ¬ nI (b 0) = (8 : Int32) from fun y => q8 ((nI_eq (b := 8) (by omega) (by decide)).1 y))]
          refine wp_bindE (lpiece_fnd hN2 ob oq ha) ?_
          refine wp_jn (fun J => ∀ s : Int32, (s = 1 ∧ ¬ fnd b a (1 + j1) = none) ∨ (s = 0 ∧ fnd b a (1 + j1) = none) → wp (J s) (fun o => o = 1)) (fun s hs => ?_) (fun J143 hJ1 => ?_)
          · refine wp_bind (wp_mono (puts_ok hN2 ha op) (fun r hr => ?_))
            rw [hr.1, if_neg n10]
            refine wp_bind (wp_mono (cpiece_ok hN2 ob oc oh ha (by omega) (by omega) (show b 0 < 16 by omega) (wt := 1 + j3) (by omega) (by omega) hr.2) (fun r2 hr2 => ?_))
            unfold jn
            dsimp only
            rcases hr2 with ⟨k1, g1, g2, g3, g4, g5⟩ | ⟨k1, rfl⟩
            · rcases hs with ⟨-, s2⟩ | ⟨rfl, -⟩
              · exact absurd k1 s2
              · rw [if_pos n00, q_ck0 (by decide) (by decide), if_pos g1, if_pos n00, q_ck0 (by decide) (by decide), show (2 : Int32) = nI 2 from rfl, pk_mul, nI_1, nI_1, q_ck (show 2 * b 0 < 16 by omega) (by decide), q_ck0 (by decide) (by decide), q_ck0 (by decide) (by decide), q_ck (show 2 * b 0 + 1 < 16 by omega) (by decide), nI_clamp (show 2 * b 0 < 2 ^ 31 by omega), nI_clamp (show 2 * b 0 + 1 < 2 ^ 31 by omega)]
                exact hJ _ _ _ _ _ _ _ _ _ _ _ _ _ ⟨_, g2, g3, g4, g5, QP_addB ob oq (by omega) (by omega), addB_QW or_ (by omega) _ _ _⟩
            · rcases hs with ⟨rfl, -⟩ | ⟨-, s2⟩
              · rw [if_neg n10, if_pos rfl, if_neg n10]
                exact hJ _ _ _ _ _ _ _ _ _ _ _ _ _ ⟨b, ob, oc, ⟨_, _, oh⟩, ⟨_, _, hr.2⟩, oq, or_⟩
              · exact absurd s2 k1
          · cases e : fnd b a (1 + j1) with
            | none =>
              rw [if_pos (show oI (-6) none < 0 by decide)]
              exact hJ1 0 (Or.inr ⟨rfl, e⟩)
            | some p =>
              have hp := (ff_some e).2.1
              rw [if_neg (show ¬ oI (-6) (some p) < 0 from nI_pos (by omega))]
              exact hJ1 1 (Or.inl ⟨rfl, fun y => by rw [e] at y; cases y⟩)
theorem RK_0 : RK zC zH zP zF zF zF := by
  refine ⟨fun _ => 0, OKb_0, ?_, ⟨fun _ => fun _ => 0, 0, ?_⟩, ⟨fun _ => 0, 0, PC_0 _ _⟩, ?_, ?_⟩
  · exact ⟨rfl, rfl, fun p hp => absurd hp (Nat.not_lt_zero p), fun w hw => absurd hw (Nat.not_lt_zero w)⟩
  · exact ⟨Nat.zero_le _, rfl, fun k hk => absurd hk (Nat.not_lt_zero k)⟩
  · exact ⟨rfl, rfl, Nat.zero_le _, fun p hp => absurd hp (Nat.not_lt_zero p)⟩
  · exact ⟨Nat.zero_le _, fun w hw => absurd hw (Nat.not_lt_zero w)⟩
/-- on every script the law answers 1 -/
theorem law_ok {N : Nat} (hN : 2000 < N) (L : Nat) (xs : Nat → Int32) (lt : LV) (bc : BV) (ac : AV) (bn cw rd re : Nat → Int32) : f_L_law N L xs zC zH zP lt bc ac bn cw zF zF rd re zF = some 1 := by
  have h : wp (f_L_law N L xs zC zH zP lt bc ac bn cw zF zF rd re zF) (fun o => o = 1) := by
    unfold f_L_law sck
    rw [if_neg (show ¬ (0 : Int32) < 0 by decide)]
    obtain ⟨j, hj, e⟩ := low_ok N (cellv L xs 0) (n := 2) (by decide) (by decide)
    refine wp_bindE e ?_
    rw [show (2 : Int32) + nI j = nI (2 + j) from nI_add 2 j]
    exact law_L50 (N := N) hN (g := 2 + j) (by omega) (fun _ _ _ _ _ _ _ _ _ _ _ _ _ => wp_some rfl) N 0 zC zH zP lt bc ac bn cw zF zF rd re zF (Nat.zero_le _) (by omega) RK_0
  obtain ⟨r, h1, h2⟩ := h
  rw [h1, h2]
