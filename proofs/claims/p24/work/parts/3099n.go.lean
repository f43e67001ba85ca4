-- a run: as far as its fuel goes
section GO1
variable {own own' own1 own2 ad ad' ad1 ad2 : Nat → Nat} {h h' h1 h2 : xb_H} {W : wD} {σ D : Nat} {gx : Nat → fG}
theorem mc_passFree {Qr : xb_H → Prop} (hB : cB own ad h) (hW : wI own ad h W σ) (hS : mS ad h) (hR : rR ad h W) (hQ : ∀ h' : xb_H, stp [15, 37] [] own ad own ad h h' → rR ad h' W → Qr h') : w_Machine_passFree (ad 15) h Qr := by
  have key : ∀ (m : Nat) (x1 : Int32) (k : Nat) (h1 : xb_H), x1.toInt = k → k + m = 20000000 → stp [15, 37] [] own ad own ad h h1 → rR ad h1 W → w_Machine_passFree_L2 Qr (m + 1) (ad 15) x1 h1 := by
    intro m
    induction m with
    | zero =>
      intro x1 k h1 e1 e2 s r
      unfold w_Machine_passFree_L2 w_Machine_passFree_L166
      refine ⟨fun _ => hQ h1 s r, fun e => ?_⟩
      rw [z_le, e1, show (20000000 : Int32).toInt = 20000000 from rfl] at e
      omega
    | succ m ih =>
      intro x1 k h1 e1 e2 s r
      have hW1 : wI own ad h1 W σ := hW.mc hB s (by simp) (fun h9 => by simp at h9)
      have hS1 := hS.st hB s
      have k15 : xb_k h1 (ad 15) = 8 := s.1.k 15 (by omega)
      have nx : ∀ h2 : xb_H, stp [15, 37] [] own ad own ad h1 h2 → rR ad h2 W → w_Machine_passFree_L160 (w_Machine_passFree_L2 Qr (m + 1)) Qr (ad 15) x1 h2 := by
        intro h2 s2 r2
        unfold w_Machine_passFree_L160
        exact ih (x1 + 1) (k + 1) h2 (by rw [z_add, e1, show (1 : Int32).toInt = 1 from rfl]; omega) (by omega) ((s.tr s2).mono (by decide) (fun k hk => by simpa using hk)) r2
      unfold w_Machine_passFree_L2 w_Machine_passFree_L166
      refine ⟨fun _ => hQ h1 s r, fun _ => ⟨k15, fun _ => hQ h1 s r, fun e => ?_⟩⟩
      rcases id r with ⟨r1, r2⟩ | ⟨D, gx, hI⟩
      · exact absurd (z_eq.mpr r1) e
      obtain ⟨t, P, lcn, p0, E, lo, ν0, g, G, gs, hr, hG⟩ := hI.op
      obtain ⟨-, ⟨t1, t2, t3, t4, t5, t6, t7⟩, -, ⟨a, a5, b1, b2, b3, b7, b5, b6⟩, -, -⟩ := id hr
      obtain ⟨l5, hiO⟩ := hW1.2.2.2.2.2.2.1.2.2.2 _ a5
      obtain ⟨⟨q1, q2, q3, q4, q5⟩, -⟩ := id hiO
      obtain ⟨⟨m1, m2, m3, m4, m5⟩, ⟨m6, m7, m8, m9⟩, -, -, m10⟩ := id q5.1
      obtain ⟨-, ⟨f1, f2, f3, f4, f5, -⟩, -, g0, g1, g2, g3⟩ := id b1
      obtain ⟨⟨d1, d2, d3, d4, d5⟩, hl⟩ := g0 _ _ _ hG
      have cat : (xb_i h1 (ad 15) 15).toNatClampNeg = gA (gx (D - 1)) := by rw [z_cl, t2, Int.toNat_natCast]
      have K : w_Machine_passFree_L159 (w_Machine_passFree_L2 Qr (m + 1)) Qr h1 := by
        unfold w_Machine_passFree_L159
        exact hQ h1 s r
      have op : ∀ (y : Int32) (z : Int), y.toInt = z → 0 ≤ z → z < 256 → dcb (wd W (gI (gx (D - 1)))) (gA (gx (D - 1))) = y → (dcb (wd W (gI (gx (D - 1)))) (gA (gx (D - 1)))).toInt % 256 = z := by
        intro y z hy z1 z2 e9
        rw [e9, hy]
        omega
      have L97 : (∃ gs' : List gF, G 0 (gA (gx (D - 1)) + 2) (gC (gx (D - 1))) gs') → w_Machine_passFree_L97 (w_Machine_passFree_L2 Qr (m + 1)) Qr (ad 15) x1 h1 := by
        intro ⟨gs', hG'⟩
        unfold w_Machine_passFree_L97
        refine ⟨k15, fun h2 e2' => ?_⟩
        rw [e2']
        refine nx _ ((stp.Ic s.1).mono (by decide) (fun k hk => hk)) (hr.at s.1 hG' ?_)
        rw [z_add, t2, show (2 : Int32).toInt = 2 from rfl]
        omega
      refine ⟨_, t6, m3, by rw [z_in, t2, m4]; omega, ?_⟩
      rw [cat, m5]
      refine ⟨fun e9 h8 e8 => ?_, fun e9 => L97 ⟨_, (hl.2.1 (.inl (op 2 2 rfl (by omega) (by omega) e9))).2.2⟩, fun e9 => L97 ⟨_, (hl.2.1 (.inr (op 3 3 rfl (by omega) (by omega) e9))).2.2⟩, fun _ => K, fun e9 => ?_, fun _ => K, fun _ => K, fun _ => K, fun _ => K, fun _ => K, fun e9 => ?_, fun _ _ _ _ _ _ _ _ _ _ _ => K⟩
      · have hG' := hl.1 (op 1 1 rfl (by omega) (by omega) e9)
        rw [e8]
        exact nx _ ((stp.Ic s.1).mono (by decide) (fun k hk => hk)) (hr.at s.1 hG' (z_inc t2 (by omega)))
      · obtain ⟨oo, b, gs', h2, h3, h4, h5⟩ := hl.2.2.2.1 (op 5 5 rfl (by omega) (by omega) e9)
        obtain ⟨en, x, u1, u2, u3, u4⟩ := g3 _ _ _ h5
        have een : en = gA (gx (D - 1)) := by
          have y1 := h3.2.2
          have y2 := u1.2.2
          omega
        subst een
        refine ⟨_, t7, m7, by rw [z_in, t2, m8]; omega, fun h16 e16 => ?_⟩
        rw [m9] at e16
        rw [e16]
        exact nx _ ((stp.Ic s.1).mono (by decide) (fun k hk => hk)) (hr.at s.1 u4 u3.2.2)
      · have h11 := hl.2.2.2.2.1 (op 11 11 rfl (by omega) (by omega) e9)
        refine ⟨_, t7, m7, by rw [z_in, t2, m8]; omega, ?_⟩
        rw [m9]
        refine ⟨fun e10 h27 e27 => ?_, fun e10 => ?_⟩
        · rcases h11 with ⟨h2, -⟩ | ⟨oo, b, gs', -, -, -, hG'⟩
          · exact absurd (z_eq.mpr h2.2.2) e10
          · rw [e27]
            exact nx _ ((stp.Ic s.1).mono (by decide) (fun k hk => hk)) (hr.at s.1 hG' (z_inc t2 (by omega)))
        · rcases h11 with ⟨-, -, hc⟩ | ⟨oo, b, gs', -, h3, -⟩
          · exact mc_endCall s.1 hW1 hS1 hr (c := []) (by rw [hr.rT_, hc, List.append_nil]) (fun h2 s2 r2 _ => nx h2 s2 r2)
          · have y1 := h3.2.2
            rw [e10, show (1 : Int32).toInt = 1 from rfl] at y1
            omega
  unfold w_Machine_passFree
  exact ⟨20000001, key 20000000 0 0 h rfl (by omega) ((stp.rf hB).mono (by decide) (fun k hk => hk)) hR⟩
theorem sQ.tr {rc rs np bc1 bs1 bc2 bs2 : Nat} (q1 : sQ own ad h W σ rc rs own1 ad1 h1 bc1 bs1) (q2 : sQ own1 ad1 h1 (wgr W np) σ rc rs own2 ad2 h2 bc2 bs2) : sQ own ad h W σ rc rs own2 ad2 h2 bc2 bs2 := by
  obtain ⟨a1, a2, a3, a4, a5, a6⟩ := q1
  obtain ⟨b1, ⟨np', b2⟩, b3, b4, b5, b6⟩ := q2
  exact ⟨a1.tr b1, ⟨np', b2⟩, b3, b4, b5, b6⟩
theorem mc_goL {x1 : Int32} {rc rs bc bs : Nat} {Qr : Int32 → xb_H → Nat → Nat → Prop} (a15 : ad' 15 = ad 15) (hq : sQ own ad h W σ rc rs own' ad' h' bc bs)
    (hQ : ∀ (r : Int32) (h' : xb_H) (own' ad' : Nat → Nat) (bc' bs' : Nat), sQ own ad h W σ rc rs own' ad' h' bc' bs' → Qr r h' bc' bs') : w_Machine_go_L29 Qr (ad 15) x1 h' bc bs := by
  have L76 : ∀ (own1 ad1 : Nat → Nat) (h1 : xb_H) (bc1 bs1 : Nat), sQ own ad h W σ rc rs own1 ad1 h1 bc1 bs1 → w_Machine_go_L76 Qr (ad 15) h1 bc1 bs1 := by
    intro own1 ad1 h1 bc1 bs1 q
    have a15 : ad1 15 = ad 15 := q.1.2.2.2.2.2.2 15 (by decide)
    unfold w_Machine_go_L76 w_Machine_go_L88
    exact ⟨by rw [← a15]; exact q.1.1.k 15 (by omega), fun _ => hQ _ _ _ _ _ _ q, fun _ => hQ _ _ _ _ _ _ q⟩
  have key : ∀ (m : Nat) (x2 : Int32) (own1 ad1 : Nat → Nat) (h1 : xb_H) (bc1 bs1 : Nat), x2.toInt < m → sQ own ad h W σ rc rs own1 ad1 h1 bc1 bs1 → w_Machine_go_L31 Qr (m + 1) (ad 15) x2 h1 bc1 bs1 := by
    intro m
    induction m with
    | zero =>
      intro x2 own1 ad1 h1 bc1 bs1 e1 q
      unfold w_Machine_go_L31
      refine ⟨fun _ => L76 _ _ _ _ _ q, fun e => ?_⟩
      rw [z_lt, show (0 : Int32).toInt = 0 from rfl] at e
      omega
    | succ m ih =>
      intro x2 own1 ad1 h1 bc1 bs1 e1 q
      have a15 : ad1 15 = ad 15 := q.1.2.2.2.2.2.2 15 (by decide)
      obtain ⟨q1, ⟨np, q2⟩, q3, q4, q5, q6⟩ := id q
      unfold w_Machine_go_L31
      refine ⟨fun _ => L76 _ _ _ _ _ q, fun e => ⟨by rw [← a15]; exact q1.1.k 15 (by omega), fun _ => L76 _ _ _ _ _ q, fun e3 => ?_⟩⟩
      rw [z_lt, show (0 : Int32).toInt = 0 from rfl] at e
      rw [← a15]
      refine mc_passFree (W := wgr W np) q1.1 q2 q3 q4 (fun h4 s4 r4 _ => ?_)
      have q4' : sQ own1 ad1 h1 (wgr W np) σ rc rs own1 ad1 h4 bc1 bs1 := sQ.of q1.1 q2 q3 q5 q6 s4 (by simp) (fun h9 => by simp at h9) r4
      have qq := q.tr q4'
      have nx : ∀ (own2 ad2 : Nat → Nat) (h3 : xb_H) (bc2 bs2 : Nat), sQ own ad h W σ rc rs own2 ad2 h3 bc2 bs2 → w_Machine_go_L70 (w_Machine_go_L31 Qr (m + 1)) Qr (ad1 15) x2 h3 bc2 bs2 := by
        intro own2 ad2 h3 bc2 bs2 q7
        unfold w_Machine_go_L70
        rw [a15]
        refine ih (x2 + -1) own2 ad2 h3 bc2 bs2 ?_ q7
        have := z_rg x2
        rw [z_add, show (-1 : Int32).toInt = -1 from rfl]
        omega
      have L59 : w_Machine_go_L59 (w_Machine_go_L31 Qr (m + 1)) Qr (ad1 15) x2 h4 bc1 bs1 := by
        unfold w_Machine_go_L59
        refine ⟨s4.1.k 15 (by omega), fun _ => nx _ _ _ _ _ qq, fun e9 => ?_⟩
        obtain ⟨p1, ⟨np', p2⟩, p3, p4, p5, p6⟩ := id q4'
        rcases p4 with ⟨r1, r2⟩ | ⟨D, gx, hI⟩
        · exact absurd (z_eq.mpr r1) e9
        · exact mc_step (W := wgr W np') p1.1 p2 p3 p5 p6 hI (fun h3 own2 ad2 bc2 bs2 q7 _ => nx _ _ _ _ _ (qq.tr q7))
      exact ⟨fun _ => L59, fun _ => ⟨fun _ => L59, fun _ => hQ _ _ _ _ _ _ qq⟩⟩
  unfold w_Machine_go_L29
  exact ⟨x1.toInt.toNat + 1 + 1, key (x1.toInt.toNat + 1) x1 own' ad' h' bc bs (by omega) hq⟩
theorem rI.sm7 {z : Int32} (hB : cB own ad h) (hr : rI ad h W D gx) : rI ad (xb_I h (ad 15) 7 z) W D gx := by
  have n15 : ad 38 ≠ ad 15 := hB.ne (by omega) (by omega) (by omega)
  have j : ∀ k, k ≠ 7 → xb_i (xb_I h (ad 15) 7 z) (ad 15) k = xb_i h (ad 15) k := fun k hk => by rw [xh_iI, if_pos rfl, xh_up, if_neg hk]
  have j38 : xb_i (xb_I h (ad 15) 7 z) (ad 38) = xb_i h (ad 38) := by rw [xh_iI, if_neg n15]
  unfold rI mT at *
  rw [j 3 (by omega), j 4 (by omega), j 8 (by omega), j 10 (by omega), j 15 (by omega), j 16 (by omega), j 17 (by omega), j38]
  exact hr
theorem mc_go {x1 : Int32} {rc rs bc bs : Nat} {Qr : Int32 → xb_H → Nat → Nat → Prop} (hB : cB own ad h) (hW : wI own ad h W σ) (hS : mS ad h) (hf : fI ad h) (hg : bgv ad h rc rs bc bs) (hr : rS ad h W) (h3 : (xb_i h (ad 15) 3).toInt ≠ 0)
    (hQ : ∀ (r : Int32) (h' : xb_H) (own' ad' : Nat → Nat) (bc' bs' : Nat), sQ own ad h W σ rc rs own' ad' h' bc' bs' → Qr r h' bc' bs') : w_Machine_go (ad 15) x1 h bc bs Qr := by
  unfold w_Machine_go
  refine ⟨hB.k 15 (by omega), fun h2 e2 => ?_⟩
  have s2 : stp [15] [] own ad own ad h h2 := by rw [e2]; exact stp.Ic hB
  have n15 : ad 38 ≠ ad 15 := hB.ne (by omega) (by omega) (by omega)
  have j2 : ∀ k, k ≠ 7 → xb_i h2 (ad 15) k = xb_i h (ad 15) k := fun k hk => by rw [e2, xh_iI, if_pos rfl, xh_up, if_neg hk]
  rcases hr with ⟨r1, -⟩ | ⟨f, r1, r2, r3, r4, r5, r6, r7⟩ | ⟨D, gx, hI⟩
  · exact absurd r1 h3
  · refine ⟨fun e => ?_, fun e v4 e4 h5 e5 => ?_⟩
    · rw [j2 8 (by omega), z_eq, r3, show (-1 : Int32).toInt = -1 from rfl] at e
      omega
    · have s5 : stp [15] [] own ad own ad h2 h5 := by rw [e5]; exact stp.Ic s2.1
      have sA : stp [15] [] own ad own ad h h5 := (s2.tr s5).mono (by decide) (fun k hk => by simpa using hk)
      have j5 : ∀ k, k ≠ 7 → k ≠ 8 → xb_i h5 (ad 15) k = xb_i h (ad 15) k := fun k h7 h8 => by rw [e5, xh_iI, if_pos rfl, xh_up, if_neg h8, j2 k h7]
      have l5 : xb_l h5 = xb_l h := by rw [e5, xh_lI, e2, xh_lI]
      have n5 : xb_n h5 = xb_n h := by rw [e5, xh_nI, e2, xh_nI]
      have hc : cP ad h5 W 0 (fun _ => (0, 0, 0, 0, 0, [])) f 0 := by
        refine ⟨⟨by omega, by rw [j5 3 (by omega) (by omega)]; exact r1, by rw [j5 4 (by omega) (by omega)]; exact r2, by rw [e5, xh_iI, if_pos rfl, xh_up, if_pos rfl]; rfl⟩, ⟨?_, ?_, by rw [l5]; exact r7⟩, ⟨fun _ => rfl, fun h9 => by omega⟩, fun j hj => by omega, fun j hj => by omega⟩
        · rw [j5 10 (by omega) (by omega), Nat.zero_add]
          exact r5
        · rw [n5, Nat.zero_add]
          exact r6
      have hW5 : wI own ad h5 W σ := hW.mc hB sA (by simp) (fun h9 => by simp at h9)
      have hf5 : fI ad h5 := hf.st hB sA (by decide) (fun x hx => by cases hx) (by decide) (by decide)
      refine mc_call sA.1 hW5 (hS.st hB sA) hc r4 (by rw [e4, j2 8 (by omega)]; exact r3) (fun h9 => by omega) (hg.st hB sA) (fun h6 own6 ad6 bc6 bs6 hq _ => ?_)
      have hq2 := (hq.pre sA (by decide)).s hB hf
      exact mc_goL (hq2.1.2.2.2.2.2.2 15 (by decide)) hq2 hQ
  · refine ⟨fun e => ?_, fun e => ?_⟩
    · have hI2 := hI.sm7 (z := 0) hB
      rw [← e2] at hI2
      exact mc_goL rfl (sQ.of hB hW hS hf hg s2 (by simp) (fun h9 => by simp at h9) (.inr ⟨D, gx, hI2⟩)) hQ
    · refine absurd ?_ e
      rw [j2 8 (by omega), z_eq, hI.1.2.2.2.2]
      rfl
end GO1
