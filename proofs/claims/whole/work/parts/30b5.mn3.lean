-- the reference: room for imports; an instance's only table or memory; rows that fit
/-- imports got more room: all else as before -/
def rvX (mm : Nat) (A A' : Nat → Nat) (h h' : xb_H) (F F' : Nat → Nat → Int32) (v : Nat → Int32) : Prop :=
  (∀ k, (∃ e ∈ aL, e.1 = k) → k ≠ 33 → A' k = A k ∧ F' (A' k) = F (A k) ∧ xb_l h' (A' k) = xb_l h (A k)) ∧ (∀ j, j < vN v 34 → F' (A' 33) j = F (A 33) j) ∧ xb_l h' mm = xb_l h mm
section MN3
variable {own own' : Nat → Nat} {mm m i ip k f t n : Nat} {A A' : Nat → Nat} {h h' h2 : xb_H} {F F' F2 : Nat → Nat → Int32} {v v' v2 v0 cb : Nat → Int32} {D : zM} {DM : Nat → zM} {len rl K rc rs bc bs E : Nat} {Qr : Int32 → xb_H → Prop} {Ql : Int64 → xb_H → Prop} {Qb : xb_H → Nat → Nat → Prop}
theorem m_reserveImports {x1 : Int32} (hA : rA own mm A h F v DM len rl K) (hg : rG len rl rc rs K bc bs) (h1 : x1.toInt = n) (hn : n ≤ 10240) (hQ : ∀ (own' A' : Nat → Nat) (h' : xb_H) (F' : Nat → Nat → Int32) (rl' bc' bs' : Nat), zT own own' h F h' F' → rA own' mm A' h' F' v DM len rl' K → rG len rl' rc rs K bc' bs' → vN v 34 + n ≤ rl' → rvX mm A A' h h' F F' v → Qb (mH h' F' mm v) bc' bs') : w_M_reserveImports mm x1 (mH h F mm v) bc bs Qb := by
  have hB := hA.B
  obtain ⟨d1, d2, -, -⟩ := hB.g (k := 33) (kd := 102) (n := 0) (by decide)
  obtain ⟨r1, r2, r3, r4, r5⟩ := hA.2.2.1
  obtain ⟨n34, n34'⟩ := hA.n (k := 34) (b := 245760) (by decide)
  have n43 := (hA.n (k := 43) (b := 8192) (by decide)).2
  have e34 : (v 34 + x1).toInt = (vN v 34 + n : Nat) := z_ad2 n34 h1 (by omega) (by omega)
  unfold w_M_reserveImports w_M_reserveImports_L55
  rw [mH_i]
  refine ⟨hB.2.1, A 33, d1, d2, fun hle => ?_, fun hle => ?_⟩
  · rw [z_le, e34] at hle
    have hle' : ((vN v 34 + n : Nat) : Int) ≤ (nI (xb_n h (A 33))).toInt := hle
    rw [r1, z_nI (by omega)] at hle'
    exact hQ own A h F rl bc bs zT.rf hA hg (by omega) ⟨fun _ _ _ => ⟨rfl, rfl, rfl⟩, fun _ _ => rfl, rfl⟩
  · have hle' : ¬ ((vN v 34 + n : Nat) : Int) ≤ (nI (xb_n h (A 33))).toInt := by
      rw [← e34, ← z_le]
      exact hle
    rw [r1, z_nI (by omega)] at hle'
    obtain ⟨L, hL⟩ : ∃ L, L = 2 * (vN v 34 + n) := ⟨_, rfl⟩
    have e2 : (2 * (v 34 + x1)).toInt = (L : Nat) := by
      rw [Int32.toInt_mul, z_bm, e34]
      simp only [Int32.reduceToInt]
      omega
    have c2 : (2 * (v 34 + x1)).toNatClampNeg = L := by rw [z_cl, e2]; omega
    rw [c2]
    obtain ⟨g1, g2⟩ := hg
    refine ⟨by rw [z_lt, e2]; simp only [Int32.reduceToInt]; omega, by omega, by omega, by omega, fun q5 hq5 h6 e6 => ⟨vN v 34 + 1, ?_⟩⟩
    have hq : xb_k h q5 = 0 := hq5
    have qm : q5 ≠ mm := fun e => by rw [e, hB.2.1] at hq; omega
    rw [mH_N qm] at e6
    subst e6
    have nz : ∀ k, (∃ e ∈ aL, e.1 = k) → xb_k h (A k) ≠ 0 := fun k ⟨e, he, hk⟩ => by rw [← hk]; exact hB.pk e he
    have nq : ∀ a, xb_k h a ≠ 0 → a ≠ q5 := fun a ha e => ha (by rw [e]; exact hq)
    have n33 : A 33 ≠ q5 := nq _ (nz 33 (by decide))
    have B2 := hB.sw (q := q5) (k := 33) (kd := 102) (n := L) (by decide) (by decide) (by decide) hq
    have kh : ∀ a, xb_k (xb_new h q5 102 L) a = if a = q5 then 102 else xb_k h a := fun a => by rw [xh_kN]
    have key : ∀ (mf k : Nat) (x3 : Int32) (f5 : Nat → Int32), x3.toInt = k → k ≤ vN v 34 → vN v 34 - k ≤ mf → (∀ j, j < k → f5 j = F (A 33) j) → w_M_reserveImports_L27 Qb (mf + 1) mm q5 x3 (mH (xb_new h q5 102 L) (va_up F q5 f5) mm v) (bc - 1) (bs - L) := by
      have out : ∀ f5 : Nat → Int32, (∀ j, j < vN v 34 → f5 j = F (A 33) j) → ∀ h3 : xb_H, h3 = xb_P (mH (xb_new h q5 102 L) (va_up F q5 f5) mm v) mm 33 (some q5) → w_M_reserveImports_L55 Qb h3 (bc - 1) (bs - L) := by
        intro f5 hf5 h3 e3
        have e3' : h3 = mH (xb_P (xb_new h q5 102 L) mm 33 (some q5)) (va_up F q5 f5) mm v := e3
        subst e3'
        unfold w_M_reserveImports_L55
        have own5 : ∀ a, xb_k h a ≠ 0 → (fun a => if a = q5 then 61 + 33 else own a) a = own a := fun a ha => if_neg (nq a ha)
        have z5 : zT own (fun a => if a = q5 then 61 + 33 else own a) h F (xb_P (xb_new h q5 102 L) mm 33 (some q5)) (va_up F q5 f5) := by
          have t1 := zT.new (F := F) (f := f5) (n := L) (kd := 102) hq (by decide) (rfl : (fun a => if a = q5 then 61 + 33 else own a) = _)
          exact t1.tr (zT.P (by show 60 ≤ (if mm = q5 then 61 + 33 else own mm); rw [if_neg (Ne.symm qm), hB.1]; omega))
        have Ao : ∀ k, k ≠ 33 → va_up A 33 q5 k = A k := fun k hk => by rw [xh_up, if_neg hk]
        have A33 : va_up A 33 q5 33 = q5 := by rw [xh_up, if_pos rfl]
        have Fo : ∀ k, (∃ e ∈ aL, e.1 = k) → k ≠ 33 → va_up F q5 f5 (va_up A 33 q5 k) = F (A k) := fun k hk h9 => by rw [Ao k h9, xh_up, if_neg (nq _ (nz k hk))]
        have F33 : va_up F q5 f5 (va_up A 33 q5 33) = f5 := by rw [A33, xh_up, if_pos rfl]
        obtain ⟨rw_, ef, ro_, re_⟩ := hA.2.2.2.1
        have rwk : xb_k h rw_ ≠ 0 := by
          have h9 : xb_k h rw_ = 100 := re_.1.2.2.1
          rw [h9]
          decide
        have rwm : rw_ ≠ mm := fun e => by
          have := hB.1
          rw [← e, ro_] at this
          omega
        obtain ⟨l1, l2, l3⟩ := hA.2.1
        have nn : ∀ a, xb_k h a ≠ 0 → xb_n (xb_P (xb_new h q5 102 L) mm 33 (some q5)) a = xb_n h a := fun a ha => by
          show xb_n (xb_new h q5 102 L) a = _
          rw [xh_nN, if_neg (nq a ha)]
        have n90 : A 90 ≠ mm := hB.nm (by decide)
        refine hQ (fun a => if a = q5 then 61 + 33 else own a) (va_up A 33 q5) _ (va_up F q5 f5) L (bc - 1) (bs - L) z5 ?_ ⟨by omega, by omega⟩ (by omega) ⟨fun k hk h9 => ⟨Ao k h9, Fo k hk h9, by rw [Ao k h9, xh_lP, xh_lN, if_neg (nq _ (nz k hk))]⟩, fun j hj => by rw [F33]; exact hf5 j hj, by rw [xh_lP, xh_lN, if_neg (Ne.symm qm)]⟩
        refine ⟨B2, ⟨?_, ?_, l3⟩, ⟨?_, by omega, by omega, by omega, r5⟩, ⟨rw_, ef, by dsimp only; rw [if_neg (nq rw_ rwk)]; exact ro_, ?_⟩, hA.W1, hA.I.2.ex n43 (fun k hk h9 => Fo k ((by decide : ∀ k, k ∈ aRI → ∃ e ∈ aL, e.1 = k) k hk) (fun e => h9 (by rw [e]; decide))) (fun k hk j _ => ?_) (fun j hj => ?_) (fun f _ => ?_) (fun t _ => ?_) (fun m _ => ?_) (fun g _ => ?_)⟩
        · rw [Ao 11 (by decide), nn _ (nz 11 (by decide))]; exact l1
        · rw [Ao 12 (by decide), nn _ (nz 12 (by decide))]; exact l2
        · rw [A33]
          show xb_n (xb_new h q5 102 L) q5 = L
          rw [xh_nN, if_pos rfl]
        · rw [Ao 90 (by decide)]
          refine re_.pt ?_ ?_ ?_ ?_ ?_ ?_
          · show xb_k (xb_new h q5 102 L) (A 90) = xb_k h (A 90)
            rw [xh_kN, if_neg (nq _ (nz 90 (by decide)))]
          · show xb_r (xb_P (xb_new h q5 102 L) mm 33 (some q5)) (A 90) = xb_r h (A 90)
            rw [xh_rP, if_neg n90, xh_rN, if_neg (nq _ (nz 90 (by decide)))]
          · show xb_k (xb_new h q5 102 L) rw_ = xb_k h rw_
            rw [xh_kN, if_neg (nq _ rwk)]
          · exact nn rw_ rwk
          · rw [mH_o n90, mH_o n90, xh_up, if_neg (nq _ (nz 90 (by decide)))]
          · rw [mH_o rwm, mH_o rwm, xh_up, if_neg (nq _ rwk)]
        · have q : ∀ k, k ∈ [31, 32, 35, 36, 37, 38] → (∃ e ∈ aL, e.1 = k) ∧ k ≠ 33 := by decide
          show va_up F q5 f5 (va_up A 33 q5 k) j = F (A k) j
          rw [Fo k (q k hk).1 (q k hk).2]
        · show va_up F q5 f5 (va_up A 33 q5 33) j = F (A 33) j
          rw [F33]
          exact hf5 j hj
        · show va_up F q5 f5 (va_up A 33 q5 44) f = F (A 44) f ∧ va_up F q5 f5 (va_up A 33 q5 45) f = F (A 45) f
          rw [Fo 44 (by decide) (by decide), Fo 45 (by decide) (by decide)]
          exact ⟨rfl, rfl⟩
        · show va_up F q5 f5 (va_up A 33 q5 48) t = F (A 48) t ∧ va_up F q5 f5 (va_up A 33 q5 49) t = F (A 49) t
          rw [Fo 48 (by decide) (by decide), Fo 49 (by decide) (by decide)]
          exact ⟨rfl, rfl⟩
        · show va_up F q5 f5 (va_up A 33 q5 54) m = F (A 54) m
          rw [Fo 54 (by decide) (by decide)]
        · show va_up F q5 f5 (va_up A 33 q5 59) g = F (A 59) g
          rw [Fo 59 (by decide) (by decide)]
      intro mf
      induction mf with
      | zero =>
        intro k x3 f5 hx hk hm hf
        unfold w_M_reserveImports_L27
        rw [mH_i]
        refine ⟨by show xb_k (xb_new h q5 102 L) mm = 9; rw [xh_kN, if_neg (Ne.symm qm)]; exact hB.2.1, fun _ => out f5 (fun j hj => hf j (by omega)), fun hle9 => ?_⟩
        rw [z_le, n34, hx] at hle9
        omega
      | succ mf ih =>
        intro k x3 f5 hx hk hm hf
        unfold w_M_reserveImports_L27
        rw [mH_i]
        refine ⟨by show xb_k (xb_new h q5 102 L) mm = 9; rw [xh_kN, if_neg (Ne.symm qm)]; exact hB.2.1, fun hle9 => ?_, fun hle9 => ?_⟩
        · rw [z_le, n34, hx] at hle9
          exact out f5 (fun j hj => hf j (by omega))
        · rw [z_le, n34, hx] at hle9
          have cx : x3.toNatClampNeg = k := by rw [z_cl, hx]; omega
          refine ⟨A 33, ?_, ?_, ?_, ?_, ?_, fun h9 e9 => ?_⟩
          · show xb_r (xb_new h q5 102 L) mm 33 = some (A 33)
            rw [xh_rN, if_neg (Ne.symm qm)]
            exact d1
          · show xb_k (xb_new h q5 102 L) (A 33) = 102
            rw [xh_kN, if_neg n33]
            exact d2
          · rw [z_in, hx]
            show _ ∧ _ < ((xb_n (xb_new h q5 102 L) (A 33) : Nat) : Int)
            rw [xh_nN, if_neg n33]
            omega
          · show xb_k (xb_new h q5 102 L) q5 = 102
            rw [xh_kN, if_pos rfl]
          · rw [z_in, hx]
            show _ ∧ _ < ((xb_n (xb_new h q5 102 L) q5 : Nat) : Int)
            rw [xh_nN, if_pos rfl]
            omega
          · rw [mH_AA qm, cx, mH_o (hB.nm (by decide)), xh_up F, if_neg n33] at e9
            subst e9
            refine ih (k + 1) (x3 + 1) _ (z_inc hx (by omega)) (by omega) (by omega) (fun j hj => ?_)
            rw [xh_up]
            split
            · rename_i ej
              rw [ej]
            · exact hf j (by omega)
    exact key (vN v 34) 0 0 _ rfl (by omega) (by omega) (fun j hj => by omega)
/-- as only, for an instance in the making too -/
theorem m_onlyP {x1 x2 : Int32} {κ : Nat} (hrl : xb_n h (A 33) = rl ∧ rl ≤ 512000) (hX : mX own mm A h F m (DM m)) (hz : v 17 = 0) (h1 : x1.toInt = i) (hi : i < 24) (h2 : x2.toInt = κ) (hκ : κ = 1 ∨ κ = 2) (hm : (F (A 31) i).toInt = m) (hp : (F (A 32) i).toInt = ip) (hr : ip + qt (DM m) 2 ≤ rl) (hQ : ∀ (v' : Nat → Int32) (r : Int32), vg v v' → v' 17 = 0 → (r = -1 ∧ iM (DM m) κ + qt (DM m) (3 + κ) = 0) ∨ (r = oV A F DM i κ ∧ 0 < iM (DM m) κ + qt (DM m) (3 + κ)) → Qr r (mH h F mm v')) : w_M_only mm x1 x2 (mH h F mm v) Qr := by
  have hB := hX.1
  obtain ⟨a1, a2, a3, a4⟩ := hB.kx (k := 31) (kd := 102) (n := 24) (by decide) (by decide)
  have cl : x1.toNatClampNeg = i := by rw [z_cl, h1]; omega
  have oe : oV A F DM i κ = if 0 < iM (DM m) κ then F (A 33) (ip + ikx (DM m) κ (qt (DM m) 2) 0) else if κ = 1 then F (A 37) i else F (A 38) i := by
    unfold oV
    rw [hm, hp, Int.toNat_natCast, Int.toNat_natCast]
  unfold w_M_only w_M_only_L27
  refine ⟨hB.2.1, A 31, a1, a2, ?_, ?_⟩
  · rw [z_in, h1]
    show _ ∧ _ < ((xb_n h (A 31) : Nat) : Int)
    omega
  · rw [mH_o a4, cl]
    refine m_total hX hm h2 (by omega) (fun r hr9 _ => ⟨fun hn => ?_, fun he => hQ v _ vg.rf hz (.inl ⟨rfl, ?_⟩)⟩)
    · have h9 : 0 < iM (DM m) κ + qt (DM m) (3 + κ) := by
        rcases Nat.eq_zero_or_pos (iM (DM m) κ + qt (DM m) (3 + κ)) with h9 | h9
        · exfalso
          apply hn
          rw [h9] at hr9
          have : r.toInt = (0 : Int64).toInt := hr9
          exact Int64.toInt_inj.mp this
        · exact h9
      rcases Nat.eq_zero_or_pos (iM (DM m) κ) with hl | hl
      · refine m_meantO (k := 0) hX h1 hi h2 (by omega) rfl (by omega) hm (by omega) (fun r q0 q1 q2 q3 _ => hQ v r vg.rf hz (.inr ⟨?_, h9⟩))
        rw [oe, if_neg (by omega)]
        rcases hκ with e | e
        · rw [if_pos e]
          exact q1 e
        · rw [if_neg (by omega)]
          exact q2 e
      · refine m_meantI (k := 0) hrl hX hz h1 hi h2 (by omega) rfl hm hp hl hr (fun v' g1 g2 g3 g4 _ => hQ v' _ g1 g2 (.inr ⟨?_, h9⟩))
        rw [oe, if_pos hl]
    · rw [he] at hr9
      have : (0 : Int64).toInt = 0 := rfl
      omega
/-- a row's constant, where its list begins, how long it is -/
def rowP (D : zM) (s k E p3 : Nat) (L : Int64) : Prop := ckE D (cE (qc D) (qp D s k)) E ∧ E ≤ qe D ∧ rC (qc D) E = some (p3, L) ∧ p3 ≤ qe D
theorem ckE.fu {p E' : Nat} (h1 : ckE D p E) (hx : exR (qc D) p E') : E = E' := by
  obtain ⟨q, q1, q2, q3⟩ := h1
  obtain ⟨q', r1, r2, r3⟩ := hx.fst
  have key : ∀ sh, wk_sh ((qc D p).toInt % 256) = sh → 4 ≤ sh → rW (qc D) sh (p + 1) q → E = E' := fun sh e1 e2 e3 => by
    rw [e1] at r1 r3
    have := rW_f e3 r1
    subst this
    have := r3 e2 q2
    omega
  rcases q3 with ⟨e35, x, c1, -⟩ | ⟨op, o1, o2, o3, o4⟩
  · have e9 : (qc D p).toInt % 256 = 35 := by
      have : (ub (qc D) p).toInt = 35 := by rw [e35]; rfl
      unfold ub at this
      rw [z_255] at this
      exact this
    exact key 4 (by rw [e9]; rfl) (by omega) (rW_4i.mpr ⟨x, c1⟩)
  · have e9 : (qc D p).toInt % 256 = op := by
      unfold ub at o1
      rw [z_255] at o1
      exact o1
    have : op = 65 ∨ op = 66 ∨ op = 67 ∨ op = 68 := by omega
    refine key (wk_sh op) (by rw [e9]) ?_ o4
    rcases this with e | e | e | e <;> rw [e] <;> decide
theorem mdR.row (hR : mdR D) {s : Nat} (hs : s = 9 ∨ s = 11) (hk : k < qt D s) (hV : (s = 9 → cvR D k) ∧ (s = 11 → cvD D k)) : ∃ p1 x E p3 L, rC (qc D) (qp D s k) = some (p1, x) ∧ cE (qc D) (qp D s k) = p1 ∧ qb D ≤ qp D s k ∧ rowP D s k E p3 L ∧ (s = 9 → cvE D p3 L.toInt.toNat ∧ ∃ q, cks (qc D) L.toInt.toNat p3 = some q ∧ q ≤ qe D) ∧ (s = 11 → p3 + L.toInt.toNat ≤ qe D) ∧ 0 < iM D (if s = 9 then 1 else 2) + qt D (3 + if s = 9 then 1 else 2) := by
  obtain ⟨c1, q, rs, c3⟩ := (hR.2.2.2.1 s (by omega)).2 k hk
  rcases hs with e | e
  · subst e
    obtain ⟨p1, x, p2, p3, L, r1, r2, r3, r4⟩ := rs
    obtain ⟨v1, E, p3', L', v2, v3, v4⟩ := hV.1 rfl
    have e1 := (rC_E r1).1
    rw [e1] at v2
    have eE := v2.fu r2
    subst eE
    rw [r3] at v3
    simp only [Option.some.injEq, Prod.mk.injEq] at v3
    obtain ⟨y1, y2⟩ := v3
    subst y1 y2
    have b1 := rC_b r3
    have b2 := cks_b r4
    exact ⟨p1, x, E, p3, L, r1, e1, c1, ⟨by rw [e1]; exact v2, by omega, r3, by omega⟩, fun _ => ⟨v4, q, r4, c3⟩, fun e => by omega, v1⟩
  · subst e
    obtain ⟨p1, x, p2, p3, L, r1, r2, r3, r4⟩ := rs
    obtain ⟨v1, E, v2⟩ := hV.2 rfl
    have e1 := (rC_E r1).1
    rw [e1] at v2
    have eE := v2.fu r2
    subst eE
    have b1 := rC_b r3
    exact ⟨p1, x, E, p3, L, r1, e1, c1, ⟨by rw [e1]; exact v2, by omega, r3, by omega⟩, fun e => by omega, fun _ => by omega, v1⟩
end MN3
