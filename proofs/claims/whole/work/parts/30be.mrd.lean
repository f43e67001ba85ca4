-- the reference: a run reads on to an end or another part
/-- where reading on ends: the end of x, or its other part -/
def roE (cb ν0 : Nat → Int32) (V : Nat → Prop) (x2 : Int32) (x : Nat × Option Nat) (r : Int32) (e1 : Nat) : Prop :=
  V e1 ∧ ((r = 0 ∧ (cb e1).toInt = 11 ∧ (ν0 (wk_key x)).toInt = e1) ∨ ∃ o p1 : Nat, x = (o, none) ∧ (ν0 (o + 1)).toInt = p1 ∧ (cb p1).toInt = 5 ∧ V p1 ∧ ((x2 ≠ 0 ∧ r = 1 ∧ e1 = p1) ∨ (x2 = 0 ∧ r = 0 ∧ (ν0 p1).toInt = e1 ∧ (cb e1).toInt = 11)))
section MRD
variable {own : Nat → Nat} {mm N b e p q E p0 : Nat} {h : xb_H} {F : Nat → Nat → Int32} {v v' cb ν0 ν1 : Nat → Int32} {st : List (Nat × Option Nat)} {G : ctG} {V : Nat → Prop} {Qr : Int32 → xb_H → Prop}
theorem vok.nx {m : Nat} (hV : vok cb ν0 ν1 p0 E G V) (hp : V p) (hw : wk cb ν0 E (m + 1) p st) (hn : wk_sh ((cb p).toInt % 256) = 3 → st ≠ []) : ∃ (q : Nat) (st' : List (Nat × Option Nat)), nR cb ν0 p q ∧ p < q ∧ q < E ∧ V q ∧ wk cb ν0 E m q st' ∧
    (wk_sh ((cb p).toInt % 256) = 1 → st' = (p, none) :: st ∧ st.length < 200) ∧ (wk_sh ((cb p).toInt % 256) = 2 → ∃ o t, st = (o, none) :: t ∧ (ν0 (o + 1)).toInt = p ∧ st' = (o, some p) :: t) ∧ (wk_sh ((cb p).toInt % 256) = 3 → ∃ y, st = y :: st' ∧ (ν0 (wk_key y)).toInt = p) ∧ (wk_sh ((cb p).toInt % 256) = 0 ∨ 4 ≤ wk_sh ((cb p).toInt % 256) → st' = st) := by
  obtain ⟨⟨mr, w1⟩, w2, -, -⟩ := hV.2.1 p hp
  obtain ⟨a1, a2, a3, a4, a5, a6⟩ := hw
  have key : ∃ (q : Nat) (st' : List (Nat × Option Nat)), nR cb ν0 p q ∧ p < q ∧ wk cb ν0 E m q st' ∧
    (wk_sh ((cb p).toInt % 256) = 1 → st' = (p, none) :: st ∧ st.length < 200) ∧ (wk_sh ((cb p).toInt % 256) = 2 → ∃ o t, st = (o, none) :: t ∧ (ν0 (o + 1)).toInt = p ∧ st' = (o, some p) :: t) ∧ (wk_sh ((cb p).toInt % 256) = 3 → ∃ y, st = y :: st' ∧ (ν0 (wk_key y)).toInt = p) ∧ (wk_sh ((cb p).toInt % 256) = 0 ∨ 4 ≤ wk_sh ((cb p).toInt % 256) → st' = st) := by
    cases mr with
    | zero => exact w1.elim
    | succ mr =>
      obtain ⟨-, q', hnr, -⟩ := w1
      obtain ⟨n1, n2, -⟩ := id hnr
      rcases (by omega : wk_sh ((cb p).toInt % 256) = 0 ∨ wk_sh ((cb p).toInt % 256) = 1 ∨ wk_sh ((cb p).toInt % 256) = 2 ∨ wk_sh ((cb p).toInt % 256) = 3 ∨ 4 ≤ wk_sh ((cb p).toInt % 256)) with s | s | s | s | s
      · refine ⟨q', st, hnr, ?_, ?_, fun e => by omega, fun e => by omega, fun e => by omega, fun _ => rfl⟩
        · have := n1.1 (.inl s)
          omega
        · rw [n1.1 (.inl s)]
          exact a2 s
      · obtain ⟨-, -, c3, c4⟩ := a3 s
        refine ⟨q', _, hnr, ?_, ?_, fun _ => ⟨rfl, c3⟩, fun e => by omega, fun e => by omega, fun e => by omega⟩
        · have := (n1.2.1 s).1
          omega
        · rw [(n1.2.1 s).1]
          exact c4
      · obtain ⟨o, t, c1, c2, c3, c4⟩ := a4 s
        refine ⟨q', _, hnr, ?_, ?_, fun e => by omega, fun _ => ⟨o, t, c1, c3, rfl⟩, fun e => by omega, fun e => by omega⟩
        · have := n1.1 (.inr (.inl s))
          omega
        · rw [n1.1 (.inr (.inl s))]
          exact c4
      · obtain ⟨-, c2, c3⟩ := a5 s
        have e9 := n1.1 (.inr (.inr s))
        cases st with
        | nil => exact absurd rfl (hn s)
        | cons y t =>
          obtain ⟨o, x⟩ := y
          cases x with
          | none =>
            obtain ⟨d1, -, d3⟩ := c2 o t rfl
            exact ⟨q', t, hnr, by omega, by rw [e9]; exact d3, fun e => by omega, fun e => by omega, fun _ => ⟨_, rfl, d1⟩, fun e => by omega⟩
          | some e =>
            obtain ⟨d1, -, d3⟩ := c3 o e t rfl
            exact ⟨q', t, hnr, by omega, by rw [e9]; exact d3, fun e => by omega, fun e => by omega, fun _ => ⟨_, rfl, d1⟩, fun e => by omega⟩
      · obtain ⟨q2, d1, ⟨d2, -⟩, -, d4⟩ := a6 s
        have e9 : q' = q2 := by
          have := n2 s
          omega
        subst e9
        exact ⟨q', st, hnr, by omega, d4, fun e => by omega, fun e => by omega, fun e => by omega, fun _ => rfl⟩
  obtain ⟨q, st', k1, k2, k3, k4⟩ := key
  have hq := k3.lt
  exact ⟨q, st', k1, k2, hq, w2 q k1.1 hq, k3, k4⟩
theorem n_readOnL {x2 : Int32} {sx : Nat} (hs : rdH mm sx N b e cb h F) (hE : E ≤ e) (hV : vok cb ν0 ν1 p0 E G V) (hby : ∀ j, -128 ≤ (cb j).toInt ∧ (cb j).toInt ≤ 127) : ∀ (n p : Nat) (pre : List (Nat × Option Nat)) (x : Nat × Option Nat) (rest : List (Nat × Option Nat)) (m : Nat) (v : Nat → Int32) (x3 : Int32), E - p ≤ n → rdP v b p e → v 17 = 0 → V p → wk cb ν0 E m p (pre ++ x :: rest) → x3.toInt = (pre.length + 1 : Nat) → (pre ++ x :: rest).length ≤ 200 → (∀ (v' : Nat → Int32) (r : Int32) (e1 : Nat), (∀ j, j ∉ [15, 17, 18, 96] → v' j = v j) → v' 17 = 0 → (v' 96).toInt = e1 → rdP v' b (e1 + 1) e → e1 < E → p ≤ e1 → roE cb ν0 V x2 x r e1 → Qr r (mH h F mm v')) → w_M_readOn_L2 Qr (n + 1) mm x2 x3 (mH h F mm v) := by
  intro n
  induction n with
  | zero =>
    intro p pre x rest m v x3 hn hp hz hVp hw h3 hl hQ
    have := hw.lt
    omega
  | succ n ih =>
    intro p pre x rest m v x3 hn hp hz hVp hw h3 hl hQ
    have hpE := hw.lt
    cases m with
    | zero => exact hw.elim
    | succ m =>
    obtain ⟨q, st', ⟨s1, -⟩, s2, s3, s4, s5, t1, t2, t3, t4⟩ := hV.nx hVp hw (fun _ => by simp)
    have ln : (pre ++ x :: rest).length = pre.length + 1 + rest.length := by
      simp only [List.length_append, List.length_cons]
      omega
    unfold w_M_readOn_L2
    refine ⟨hs.1, fun h2 e2 => ?_⟩
    rw [mH_i, mH_I] at e2
    subst e2
    have hp2 : rdP (va_up v 96 (v 15)) b p e := ⟨by rw [xh_up, if_neg (by decide)]; exact hp.1, by rw [xh_up, if_neg (by decide)]; exact hp.2.1, hp.2.2⟩
    refine m_next_k hs hp2 (by rw [xh_up, if_neg (by decide)]; exact hz) (by omega) (fun v1 r1 z1 _ => ?_)
    have hp1 := r1.P hp2
    have v96 : (v1 96).toInt = p := by
      rw [r1.1 96 (by decide) (by decide) (by decide), xh_up, if_pos rfl]
      exact hp.1
    have vo : ∀ j, j ∉ [15, 17, 18, 96] → v1 j = v j := fun j hj => by
      have g : ∀ i, i ∈ [15, 17, 18, 96] → j ≠ i := fun i hi e9 => hj (e9 ▸ hi)
      rw [r1.1 j (g 15 (by decide)) (g 17 (by decide)) (g 18 (by decide)), xh_up, if_neg (g 96 (by decide))]
    have hu : (ub cb p).toInt = (cb p).toInt % 256 := by
      unfold ub
      exact z_255 _
    have hb := hby p
    obtain ⟨op, hop⟩ : ∃ op : Nat, (cb p).toInt % 256 = op := ⟨((cb p).toInt % 256).toNat, by omega⟩
    have hu' : (ub cb p).toInt = op := hu.trans hop
    rw [hop] at s1 t1 t2 t3 t4
    have s13 : wk_sh op < 13 := s1.2.2.2.2.2.2.2.2.2.2.2
    -- reading on behind what is written here
    have L67 : ∀ (pre' : List (Nat × Option Nat)) (x' : Nat × Option Nat) (x3' : Int32), st' = pre' ++ x' :: rest → st'.length ≤ 200 → x3'.toInt = (pre'.length + 1 : Nat) → (∀ r e1, roE cb ν0 V x2 x' r e1 → roE cb ν0 V x2 x r e1) → w_M_readOn_L67 (w_M_readOn_L2 Qr (n + 1)) Qr mm x2 x3' (ub cb p) (mH h F mm v1) := by
      intro pre' x' x3' es hl' h3' hr
      unfold w_M_readOn_L67
      refine ⟨hs.1, ?_⟩
      refine m_written_k hu' hs hp1 z1 s1 (by omega) (fun v2 r2 z2 _ => ?_)
      rw [es] at s5 hl'
      refine ih q pre' x' rest m v2 x3' (z_mE hn s2) (r2.P hp1) z2 s4 s5 h3' hl' (fun v3 r e1 g1 g2 g3 g4 g5 g7 g6 => hQ v3 r e1 (fun j hj => ?_) g2 g3 g4 g5 (by omega) (hr r e1 g6))
      have g : ∀ i, i ∈ [15, 17, 18, 96] → j ≠ i := fun i hi e9 => hj (e9 ▸ hi)
      rw [g1 j hj, r2.1 j (g 15 (by decide)) (g 17 (by decide)) (g 18 (by decide)), vo j hj]
    have e0 : p < 2147483648 := by
      have h1 := hs.2.2.2.2.1
      have h2 := hs.2.2.2.2.2.2.1
      omega
    -- an opening
    have hOp : 2 ≤ op → op ≤ 4 → w_M_readOn_L67 (w_M_readOn_L2 Qr (n + 1)) Qr mm x2 (x3 + 1) (ub cb p) (mH h F mm v1) := by
      intro o1 o2
      have sh : wk_sh (op : Int) = 1 := wk_sh_o (by omega) (by omega)
      obtain ⟨t1, t1'⟩ := t1 sh
      refine L67 ((p, none) :: pre) x (x3 + 1) (by rw [t1]; rfl) (by rw [t1]; simp only [List.length_cons]; omega) ?_ (fun _ _ h9 => h9)
      simp only [List.length_cons]
      exact z_inc h3 (by omega)
    have L51 : ¬ (2 ≤ op ∧ op ≤ 4) → ¬ (op = 5 ∧ x2 ≠ 0 ∧ x3 = 1) → w_M_readOn_L51 (w_M_readOn_L2 Qr (n + 1)) Qr mm x2 x3 (ub cb p) (mH h F mm v1) := by
      intro o1 o2
      unfold w_M_readOn_L51
      refine ⟨fun h11 => ?_, fun h11 => ?_⟩
      · have n11 : op ≠ 11 := fun e9 => h11 (by rw [z_eq, hu', e9]; rfl)
        by_cases o5 : op = 5
        · -- another part
          obtain ⟨o, tl, u1, u2, u3⟩ := t2 (by rw [o5]; decide)
          cases pre with
          | nil =>
            simp only [List.nil_append, List.cons.injEq] at u1
            obtain ⟨u1, u4⟩ := u1
            subst u4
            have c5 : (cb p).toInt = 5 := by omega
            have hx2 : x2 = 0 := Classical.byContradiction (fun h9 => o2 ⟨o5, h9, by rw [z_eq, h3]; rfl⟩)
            refine L67 [] (o, some p) x3 (by rw [u3]; rfl) (by rw [u3]; simp only [List.length_cons]; simp only [List.nil_append, List.length_cons] at hl; omega) h3 (fun r e1 h9 => ⟨h9.1, .inr ⟨o, p, u1, u2, c5, hVp, .inr ⟨hx2, ?_⟩⟩⟩)
            rcases h9.2 with ⟨g1, g2, g3⟩ | ⟨o', p1, g1, -⟩
            · exact ⟨g1, g3, g2⟩
            · cases g1
          | cons y pre =>
            simp only [List.cons_append, List.cons.injEq] at u1
            obtain ⟨u1, u4⟩ := u1
            subst u4
            refine L67 ((o, some p) :: pre) x x3 (by rw [u3]; rfl) (by rw [u3]; simp only [List.length_cons]; simp only [List.cons_append, List.length_cons] at hl; omega) h3 (fun _ _ h9 => h9)
        · have sh : wk_sh (op : Int) = 0 ∨ 4 ≤ wk_sh (op : Int) := by
            have h1 : wk_sh (op : Int) ≠ 1 := fun e9 => by
              have := wk_sh1 (by omega) e9
              omega
            have h2 : wk_sh (op : Int) ≠ 2 := fun e9 => by
              have := wk_sh2 (by omega) e9
              omega
            have h4 : wk_sh (op : Int) ≠ 3 := fun e9 => by
              have := wk_sh3 e9
              omega
            omega
          exact L67 pre x x3 (t4 sh) (by rw [t4 sh]; exact hl) h3 (fun _ _ h9 => h9)
      · have n11 : op = 11 := by
          rw [z_eq, hu'] at h11
          simp only [Int32.reduceToInt] at h11
          omega
        have c11 : (cb p).toInt = 11 := by omega
        obtain ⟨y, u1, u2⟩ := t3 (by rw [n11]; decide)
        have e3 : (x3 + (-1)).toInt = pre.length := by
          rw [z_add, h3]
          simp only [Int32.reduceToInt]
          omega
        cases pre with
        | nil =>
          simp only [List.nil_append, List.cons.injEq] at u1
          obtain ⟨u1, u4⟩ := u1
          refine ⟨fun h9 => absurd (by rw [z_eq, e3]; rfl) h9, fun _ => hQ v1 0 p vo z1 v96 hp1 hpE (Nat.le_refl p) ⟨hVp, .inl ⟨rfl, c11, by rw [u1]; exact u2⟩⟩⟩
        | cons y pre =>
          simp only [List.cons_append, List.cons.injEq] at u1
          obtain ⟨u1, u4⟩ := u1
          refine ⟨fun _ => L67 pre x _ u4.symm (by rw [← u4]; simp only [List.cons_append, List.length_cons] at hl; omega) (by rw [e3]; rfl) (fun _ _ h9 => h9), fun h9 => ?_⟩
          rw [h9] at e3
          simp only [List.length_cons, Int32.reduceToInt] at e3
          omega
    have L34 : ¬ (2 ≤ op ∧ op ≤ 4) → w_M_readOn_L34 (w_M_readOn_L2 Qr (n + 1)) Qr mm x2 x3 (ub cb p) (mH h F mm v1) := by
      intro o1
      unfold w_M_readOn_L34
      refine ⟨fun h9 => L51 o1 (fun h8 => h9 (by rw [z_eq, hu', h8.1]; rfl)), fun h5 => ⟨fun h9 => L51 o1 (fun h8 => h8.2.1 h9), fun hx2 => ⟨fun h9 => L51 o1 (fun h8 => h9 h8.2.2), fun hx3 => ?_⟩⟩⟩
      have o5 : op = 5 := by
        rw [z_eq, hu'] at h5
        simp only [Int32.reduceToInt] at h5
        omega
      obtain ⟨o, tl, u1, u2, u3⟩ := t2 (by rw [o5]; decide)
      cases pre with
      | nil =>
        simp only [List.nil_append, List.cons.injEq] at u1
        exact hQ v1 1 p vo z1 v96 hp1 hpE (Nat.le_refl p) ⟨hVp, .inr ⟨o, p, u1.1, u2, by omega, hVp, .inl ⟨hx2, rfl, rfl⟩⟩⟩
      | cons y pre =>
        rw [hx3] at h3
        simp only [List.length_cons, Int32.reduceToInt] at h3
        omega
    refine ⟨fun h9 => L34 (fun h8 => ?_), fun h9 => ⟨fun h7 => L34 (fun h8 => ?_), fun h7 => hOp ?_ ?_⟩⟩
    · rw [z_lt, hu'] at h9
      simp only [Int32.reduceToInt] at h9
      omega
    · rw [z_lt, hu'] at h7
      simp only [Int32.reduceToInt] at h7
      omega
    · rw [z_lt, hu'] at h9
      simp only [Int32.reduceToInt] at h9
      omega
    · rw [z_lt, hu'] at h7
      simp only [Int32.reduceToInt] at h7
      omega
theorem n_readOn {x1 x2 : Int32} {sx m : Nat} {pre rest : List (Nat × Option Nat)} {x : Nat × Option Nat} (hs : rdH mm sx N b e cb h F) (hE : E ≤ e) (hV : vok cb ν0 ν1 p0 E G V) (hby : ∀ j, -128 ≤ (cb j).toInt ∧ (cb j).toInt ≤ 127) (hp : rdP v b p e) (hz : v 17 = 0) (hVp : V p) (hw : wk cb ν0 E m p (pre ++ x :: rest)) (h1 : x1.toInt = (pre.length + 1 : Nat)) (hl : (pre ++ x :: rest).length ≤ 200) (hQ : ∀ (v' : Nat → Int32) (r : Int32) (e1 : Nat), (∀ j, j ∉ [15, 17, 18, 96] → v' j = v j) → v' 17 = 0 → (v' 96).toInt = e1 → rdP v' b (e1 + 1) e → e1 < E → p ≤ e1 → roE cb ν0 V x2 x r e1 → Qr r (mH h F mm v')) : w_M_readOn mm x1 x2 (mH h F mm v) Qr :=
  ⟨E - p + 1, n_readOnL hs hE hV hby (E - p) p pre x rest m v x1 (Nat.le_refl _) hp hz hVp hw h1 hl hQ⟩
end MRD
