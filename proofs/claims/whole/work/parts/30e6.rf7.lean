-- equality, reading: expressions (the reference)
/-- the kinds of what is open, the latest first -/
def kf (f : Nat → Int32) : Nat → List Int32
  | 0 => []
  | n + 1 => f n :: kf f n
/-- an expression's end, or its fault -/
noncomputable def pEx (cb : Nat → Int32) (e : Nat) : Nat → Nat → List Int32 → Rs
  | 0, _, _ => .error (0, 0)
  | m + 1, p, ks => if e ≤ p then .error (2, e)
    else if ¬ ub cb p < 2 ∧ ¬ 4 < ub cb p then (if ks.length = 200 then .error (10, p) else (pWr cb e p (wk_sh (ub cb p).toInt) (p + 1)).bind (fun q => pEx cb e m q (ub cb p :: ks)))
    else if ub cb p = 5 then (match ks with
      | [] => .error (5, p)
      | k :: t => if k = 4 then (pWr cb e p (wk_sh (ub cb p).toInt) (p + 1)).bind (fun q => pEx cb e m q (5 :: t)) else .error (5, p))
    else if ub cb p = 11 then (pWr cb e p (wk_sh (ub cb p).toInt) (p + 1)).bind (fun q => match ks with
      | [] => .ok q
      | _ :: t => pEx cb e m q t)
    else (pWr cb e p (wk_sh (ub cb p).toInt) (p + 1)).bind (fun q => pEx cb e m q ks)
noncomputable def pExp (cb : Nat → Int32) (e p : Nat) : Rs := pEx cb e (e - p + 1) p []
/-- what is still to be told of an expression that is being read -/
def xE (cb : Nat → Int32) (e : Nat) (hv0 : Nat → Int32) (P0 : Rs) (m p : Nat) (x1 x2 : Int32) (f v : Nat → Int32) : Prop :=
  (v 17 ≠ 0 → xk hv0 v p P0) ∧ (v 17 = 0 → (x2 = 0 → xk hv0 v p P0) ∧ (x2 = 1 → ∀ (v' : Nat → Int32) (p' : Nat), xk v v' p' (pEx cb e m p (kf f x1.toInt.toNat)) → xk hv0 v' p' P0))
section RF7
variable {h : xb_H} {F : Nat → Nat → Int32} {mm st N b e p p' q p1 p2 ok m op : Nat} {cb v v' v1 v2 f : Nat → Int32} {Fl Fl2 : Nat × Nat} {ks : List Int32}
theorem inc_n {x : Int32} {n : Nat} (h : x.toInt = n) (hn : n ≤ 200) : (x + 1).toInt.toNat = n + 1 := by
  rw [z_inc h (by omega)]
  rfl
theorem dec_n {x : Int32} {n : Nat} (h : x.toInt = (n + 1 : Nat)) (hn : n + 1 ≤ 200) : (x + -1).toInt.toNat = n := by
  rw [z_dec h (by omega)]
  omega
theorem kf_l : ∀ n, (kf f n).length = n
  | 0 => rfl
  | n + 1 => by show (kf f n).length + 1 = n + 1; rw [kf_l n]
theorem kf_c {g : Nat → Int32} : ∀ n, (∀ j, j < n → g j = f j) → kf g n = kf f n
  | 0, _ => rfl
  | n + 1, hj => by show g n :: kf g n = f n :: kf f n; rw [hj n (by omega), kf_c n (fun j h1 => hj j (by omega))]
theorem pEx_0 (pe : e ≤ p) : pEx cb e (m + 1) p ks = .error (2, e) := by
  unfold pEx
  rw [if_pos pe]
theorem pWr_s {w s : Nat} (h1 : rW cb s p q) (h2 : q ≤ e) : pWr cb e w s p = .ok q := mkP_s (fun q q' a1 a2 => rW_f a1 a2) h1 h2
theorem pEx_of {n_ : Nat} (pe : ¬ e ≤ p) (hop : (ub cb p).toInt = op) (h1 : 2 ≤ op) (h2 : op ≤ 4) (h3 : n_ = 200) : pEx cb e (m + 1) p (kf f n_) = .error (10, p) := by
  have a1 : ¬ ub cb p < 2 ∧ ¬ 4 < ub cb p := by
    rw [z_lt, z_lt, hop]
    simp only [Int32.reduceToInt]
    omega
  unfold pEx
  rw [if_neg pe, if_pos a1, kf_l, if_pos h3]
theorem pEx_o {n : Nat} (pe : ¬ e ≤ p) (hop : (ub cb p).toInt = op) (h1 : 2 ≤ op) (h2 : op ≤ 4) (h3 : n < 200) : (∀ q, rW cb (wk_sh op) (p + 1) q → q ≤ e → pEx cb e (m + 1) p (kf f n) = pEx cb e m q (kf (va_up f n (ub cb p)) (n + 1))) ∧ ∀ Fl, pWr cb e p (wk_sh op) (p + 1) = .error Fl → pEx cb e (m + 1) p (kf f n) = .error Fl := by
  have a1 : ¬ ub cb p < 2 ∧ ¬ 4 < ub cb p := by
    rw [z_lt, z_lt, hop]
    simp only [Int32.reduceToInt]
    omega
  have e1 : pEx cb e (m + 1) p (kf f n) = (pWr cb e p (wk_sh op) (p + 1)).bind (fun q => pEx cb e m q (ub cb p :: kf f n)) := by
    conv => lhs; unfold pEx
    rw [if_neg pe, if_pos a1, kf_l, if_neg (by omega), hop]
  have e2 : kf (va_up f n (ub cb p)) (n + 1) = ub cb p :: kf f n := by
    show va_up f n (ub cb p) n :: kf (va_up f n (ub cb p)) n = _
    rw [xh_up, if_pos rfl, kf_c n (fun j hj => by rw [xh_up, if_neg (by omega)])]
  refine ⟨fun q hw hq => ?_, fun Fl hF => ?_⟩
  · rw [e1, pWr_s hw hq, e2]
    rfl
  · rw [e1, hF]
    rfl
theorem pEx_p (pe : ¬ e ≤ p) (hop : (ub cb p).toInt = op) (hn : ub cb p < 2 ∨ 4 < ub cb p) (n5 : ¬ ub cb p = 5) (n11 : ¬ ub cb p = 11) : (∀ q, rW cb (wk_sh op) (p + 1) q → q ≤ e → pEx cb e (m + 1) p ks = pEx cb e m q ks) ∧ ∀ Fl, pWr cb e p (wk_sh op) (p + 1) = .error Fl → pEx cb e (m + 1) p ks = .error Fl := by
  have e1 : pEx cb e (m + 1) p ks = (pWr cb e p (wk_sh op) (p + 1)).bind (fun q => pEx cb e m q ks) := by
    conv => lhs; unfold pEx
    rw [if_neg pe, if_neg (fun h9 => hn.elim h9.1 h9.2), if_neg n5, if_neg n11, hop]
  refine ⟨fun q hw hq => ?_, fun Fl hF => ?_⟩
  · rw [e1, pWr_s hw hq]
    rfl
  · rw [e1, hF]
    rfl
theorem n24 {c : Int32} (hc : c.toInt < 2 ∨ 4 < c.toInt) (h : ub cb p = c) : ¬ (¬ ub cb p < 2 ∧ ¬ 4 < ub cb p) := by
  rw [h, z_lt, z_lt]
  simp only [Int32.reduceToInt]
  omega
theorem pEx_e (pe : ¬ e ≤ p) (hop : (ub cb p).toInt = op) (h11 : ub cb p = 11) : (∀ q, rW cb (wk_sh op) (p + 1) q → q ≤ e → pEx cb e (m + 1) p (kf f 0) = .ok q) ∧ (∀ q n, rW cb (wk_sh op) (p + 1) q → q ≤ e → pEx cb e (m + 1) p (kf f (n + 1)) = pEx cb e m q (kf f n)) := by
  have e1 : ∀ ks, pEx cb e (m + 1) p ks = (pWr cb e p (wk_sh op) (p + 1)).bind (fun q => match ks with
      | [] => .ok q
      | _ :: t => pEx cb e m q t) := fun ks => by
    conv => lhs; unfold pEx
    rw [if_neg pe, if_neg (n24 (by decide) h11), if_neg (by rw [h11]; decide), if_pos h11, hop]
  refine ⟨fun q hw hq => ?_, fun q n hw hq => ?_⟩
  · rw [e1, pWr_s hw hq]
    rfl
  · rw [e1, pWr_s hw hq]
    rfl
theorem pEx_e2 (pe : ¬ e ≤ p) (hop : (ub cb p).toInt = op) (h11 : ub cb p = 11) : ∀ Fl, pWr cb e p (wk_sh op) (p + 1) = .error Fl → pEx cb e (m + 1) p ks = .error Fl := by
  intro Fl hF
  unfold pEx
  rw [if_neg pe, if_neg (n24 (by decide) h11), if_neg (by rw [h11]; decide), if_pos h11, hop, hF]
  rfl
theorem pEx_5n (pe : ¬ e ≤ p) (h5 : ub cb p = 5) : pEx cb e (m + 1) p (kf f 0) = .error (5, p) := by
  unfold pEx
  rw [if_neg pe, if_neg (n24 (by decide) h5), if_pos h5]
  rfl
theorem pEx_5f {n : Nat} (pe : ¬ e ≤ p) (h5 : ub cb p = 5) (hf : ¬ f n = 4) : pEx cb e (m + 1) p (kf f (n + 1)) = .error (5, p) := by
  unfold pEx
  rw [if_neg pe, if_neg (n24 (by decide) h5), if_pos h5]
  show (if f n = 4 then _ else _) = _
  rw [if_neg hf]
theorem pEx_5 {n : Nat} (pe : ¬ e ≤ p) (hop : (ub cb p).toInt = op) (h5 : ub cb p = 5) (hf : f n = 4) : (∀ q, rW cb (wk_sh op) (p + 1) q → q ≤ e → pEx cb e (m + 1) p (kf f (n + 1)) = pEx cb e m q (kf (va_up f n 5) (n + 1))) ∧ ∀ Fl, pWr cb e p (wk_sh op) (p + 1) = .error Fl → pEx cb e (m + 1) p (kf f (n + 1)) = .error Fl := by
  have e1 : pEx cb e (m + 1) p (kf f (n + 1)) = (pWr cb e p (wk_sh op) (p + 1)).bind (fun q => pEx cb e m q (5 :: kf f n)) := by
    conv => lhs; unfold pEx
    rw [if_neg pe, if_neg (n24 (by decide) h5), if_pos h5]
    show (if f n = 4 then _ else _) = _
    rw [if_pos hf, hop]
  have e2 : kf (va_up f n 5) (n + 1) = 5 :: kf f n := by
    show va_up f n 5 n :: kf (va_up f n 5) n = _
    rw [xh_up, if_pos rfl, kf_c n (fun j hj => by rw [xh_up, if_neg (by omega)])]
  refine ⟨fun q hw hq => ?_, fun Fl hF => ?_⟩
  · rw [e1, pWr_s hw hq, e2]
    rfl
  · rw [e1, hF]
    rfl
theorem x_expressionL {Qr : xb_H → Prop} {a0 : Nat} {P0 : Rs} (hs : rdH mm st N b e cb h F) (hby : ∀ j, -128 ≤ (cb j).toInt ∧ (cb j).toInt ≤ 127) (k24 : xb_r h mm 24 = some ok ∧ xb_k h ok = 102 ∧ xb_n h ok = 202 ∧ ok ≠ mm ∧ st ≠ ok) (hv0 : Nat → Int32)
    (hQ : ∀ (v' : Nat → Int32) (p' : Nat) (f' : Nat → Int32), ro hv0 v' a0 p' e → (v' 17 = 0 → exR cb a0 p') → xk hv0 v' p' P0 → Qr (mH h (va_up F ok f') mm v')) :
    ∀ (m p : Nat) (x1 x2 : Int32) (f v : Nat → Int32), rdP v b p e → bs_ v e → ro hv0 v a0 p e → e - p + 1 ≤ m → (v 17 = 0 → exL cb a0 p x1 x2 f) → xE cb e hv0 P0 m p x1 x2 f v → w_M_expression_L4 Qr (m + 1) mm x1 x2 (mH h (va_up F ok f) mm v) := by
  obtain ⟨k1, k2, k3, k4, k5⟩ := k24
  have hN : N ≤ 1000000 ∧ e ≤ N := ⟨hs.2.2.2.2.1, hs.2.2.2.2.2.2.1⟩
  have dead : ∀ (m p : Nat) (x1 x2 : Int32) (f v' : Nat → Int32), ro hv0 v' a0 p e → v' 17 ≠ 0 → xk hv0 v' p P0 → w_M_expression_L4 Qr (m + 1) mm x1 x2 (mH h (va_up F ok f) mm v') := by
    intro m p x1 x2 f v' o1 g2 kz
    have hq := hQ v' p f o1 (fun h9 => absurd h9 g2) kz
    unfold w_M_expression_L4 w_M_expression_L154
    rw [mH_i]
    exact ⟨fun _ => hq, fun _ => ⟨hs.1, fun _ => hq, fun h9 => absurd h9 g2⟩⟩
  intro m
  induction m with
  | zero => intro p x1 x2 f v _ _ _ hm; omega
  | succ m ih =>
    intro p x1 x2 f v hp hb ho hm hL hE
    by_cases hz : v 17 = 0
    · rcases hL hz with ⟨l1, l2⟩ | ⟨l1, l2, s, l3, l4⟩
      · have hq := hQ v p f ho (fun _ => l2) ((hE.2 hz).1 l1)
        unfold w_M_expression_L4 w_M_expression_L154
        rw [mH_i]
        exact ⟨fun _ => hq, fun h9 => absurd l1 h9⟩
      · have hs' : rdH mm st N b e cb h (va_up F ok f) := hs.up k5
        have l5 := l4.1
        have hK := (hE.2 hz).2 l1
        have ln : x1.toInt.toNat = s.length := by omega
        rw [ln] at hK
        unfold w_M_expression_L4
        rw [mH_i]
        refine ⟨fun h9 => absurd (h9.symm.trans l1) (by decide), fun _ => ⟨hs.1, fun h9 => absurd hz h9, fun _ v4 e4 => f_next hs' hp hb (fun r v1 p1 o1 f1 b1 kn _ => ?_)⟩⟩
        rw [mH_i]
        refine ⟨fun hz1 => ?_, fun hn => hQ v1 p1 f (ho.tr o1) (fun h9 => absurd h9 hn) (hK v1 p1 ?_)⟩
        rotate_left
        · refine ⟨fun h9 => absurd hz h9, fun _ => .inr ⟨(2, e), ?_, hn, kn.2 hz hn⟩⟩
          rw [pEx_0]
          refine Nat.not_lt.mp fun h9 => hn (b1 hz ⟨p + 1, _, ⟨rfl, rfl⟩, h9⟩)
        obtain ⟨f2, f3⟩ := f1 hz1
        subst f2 f3
        have P1 := o1.P hp
        have pe : ¬ e ≤ p := by
          have := o1.2.2.2.1
          omega
        have e14 : v1 14 = v 14 := o1.e14
        have v4p : v4.toInt = p := by rw [e4]; exact hp.1
        have p1m : p ≤ 1000000 := by have := hb.2.2; omega
        have hr := ub_r (cb := cb) (p := p)
        have ho1 := ho.tr o1
        have hp1 := o1.2.2.2.1
        obtain ⟨op, hop⟩ : ∃ op : Nat, (ub cb p).toInt = op := ⟨(ub cb p).toInt.toNat, by omega⟩
        have hsh : wk_sh ((cb p).toInt % 256) = wk_sh op := by rw [ub_op, hop]
        -- a fault of this instruction
        have flt : ∀ (v' : Nat → Int32) (p' c : Nat), pEx cb e (m + 1) p (kf f s.length) = .error (c, p) → v' 17 ≠ 0 → fkd v1 v' (c, p) → xk hv0 v' p' P0 := fun v' p' c h1 h2 h3 => hK v' p' ⟨fun h9 => absurd hz h9, fun _ => .inr ⟨(c, p), h1, h2, by obtain ⟨q1, q2⟩ := h3.2 hz1 h2; exact ⟨q1, by rw [← e14]; exact q2⟩⟩⟩
        -- what is written, then the next turn
        have go : ∀ (y1 y2 : Int32) (f' : Nat → Int32), (∀ q, q ≤ e → rW cb (wk_sh op) (p + 1) q → exL cb a0 q y1 y2 f') → (∀ q, rW cb (wk_sh op) (p + 1) q → q ≤ e → (y2 = 0 → pEx cb e (m + 1) p (kf f s.length) = .ok q) ∧ (y2 = 1 → pEx cb e (m + 1) p (kf f s.length) = pEx cb e m q (kf f' y1.toInt.toNat))) → (∀ Fl, pWr cb e p (wk_sh op) (p + 1) = .error Fl → pEx cb e (m + 1) p (kf f s.length) = .error Fl) → w_M_expression_L137 (w_M_expression_L4 Qr (m + 1)) Qr mm y1 y2 v4 (ub cb p) (mH h (va_up F ok f') mm v1) := by
          intro y1 y2 f' hx hg1 hg2
          unfold w_M_expression_L137 w_M_expression_L151
          rw [mH_i]
          refine ⟨hs.1, fun hn => absurd hz1 hn, fun _ => x_written hop (hs.up k5) P1 (o1.bs hb) v4p p1m (fun v2 p2 o2 g2 kw _ => ih p2 y1 y2 f' v2 (o2.P P1) (o2.bs (o1.bs hb)) (ho1.tr o2) (by have := o2.2.2.1; have := o2.2.2.2.1; omega) (fun hz2 => hx p2 o2.2.2.2.1 (g2 hz2)) ⟨fun hn2 => hK v2 p2 ⟨fun h9 => absurd hz h9, fun _ => ?_⟩, fun hz2 => ⟨fun hy => hK v2 p2 ⟨fun h9 => absurd hz h9, fun _ => .inl ⟨(hg1 p2 (g2 hz2) o2.2.2.2.1).1 hy, hz2⟩⟩, fun hy v' p' hk => hK v' p' ⟨fun h9 => absurd hz h9, fun _ => ?_⟩⟩⟩)⟩
          · rcases kw.2 hz1 with ⟨a1, a2⟩ | ⟨Fl, a1, a2, a3, a4⟩
            · exact absurd a2 hn2
            · exact .inr ⟨Fl, hg2 Fl a1, a2, a3, by rw [← e14]; exact a4⟩
          · rw [(hg1 p2 (g2 hz2) o2.2.2.2.1).2 hy]
            rcases hk.2 hz2 with ⟨a1, a2⟩ | ⟨Fl, a1, a2, a3, a4⟩
            · exact .inl ⟨a1, a2⟩
            · exact .inr ⟨Fl, a1, a2, a3, by rw [← e14, ← o2.e14]; exact a4⟩
        -- nothing more
        have die : ∀ (y1 y2 : Int32) (f' v' : Nat → Int32), ro hv0 v' a0 (p + 1) e → v' 17 ≠ 0 → xk hv0 v' (p + 1) P0 → w_M_expression_L137 (w_M_expression_L4 Qr (m + 1)) Qr mm y1 y2 v4 (ub cb p) (mH h (va_up F ok f') mm v') := by
          intro y1 y2 f' v' o2 hn kz
          unfold w_M_expression_L137 w_M_expression_L151
          rw [mH_i]
          exact ⟨hs.1, fun _ => dead m (p + 1) y1 y2 f' v' o2 hn kz, fun h9 => absurd h9 hn⟩
        have L96 : pEx cb e (m + 1) p (kf f s.length) = .error (5, p) → w_M_expression_L96 (w_M_expression_L4 Qr (m + 1)) Qr mm x1 x2 v4 (ub cb p) (mH h (va_up F ok f) mm v1) := fun hpx => by
          unfold w_M_expression_L96
          exact ⟨hs.1, f_fail (Fl := (5, p)) hs.1 P1 (o1.bs hb) (by decide) v4p p1m ⟨rfl, rfl⟩ (fun v' g1 g2 g3 _ => die _ _ f v' (ho1.tr g1) g2 (flt v' (p + 1) 5 hpx g2 g3))⟩
        have e11 : (x1 - 1).toInt = (s.length : Int) - 1 := by
          rw [z_sub, l3]
          simp only [Int32.reduceToInt]
          omega
        have L74 : ((ub cb p) < 2 ∨ 4 < ub cb p) → w_M_expression_L74 (w_M_expression_L4 Qr (m + 1)) Qr mm x1 x2 v4 (ub cb p) (mH h (va_up F ok f) mm v1) := by
          intro hn
          unfold w_M_expression_L74
          refine ⟨fun n5 => ⟨fun n11 => ?_, fun h11 => ?_⟩, fun h5 => ⟨fun hx0 => L96 ?_, fun hx0 => ⟨hs.1, ok, k1, k2, ?_, fun hf => ⟨ok, k1, k2, ?_, fun h13 e13 => ?_⟩, fun hf => L96 ?_⟩⟩⟩
          · refine go x1 x2 f (fun q hq hw => .inr ⟨l1, ?_, s, l3, ?_⟩) (fun q hw hq => ⟨fun h9 => absurd (l1.symm.trans h9) (by decide), fun _ => ?_⟩) (fun Fl hFl => ?_)
            · have := (rW_b hw).1
              omega
            · have h13 := hw.2.2.2.2.2.2.2.2.2.2.2
              have n1 : wk_sh op ≠ 1 := fun h9 => by
                have := wk_sh1 (by omega) h9
                rw [z_lt, z_lt] at hn
                simp only [Int32.reduceToInt] at hn
                omega
              have n2 : wk_sh op ≠ 2 := fun h9 => n5 (by rw [z_eq, hop, wk_sh2 (by omega) h9]; rfl)
              have n3 : wk_sh op ≠ 3 := fun h9 => n11 (by rw [z_eq, hop, wk_sh3 h9]; rfl)
              by_cases h0 : wk_sh op = 0
              · have := hw.1 (.inl h0)
                subst this
                exact l4.plain (by rw [hsh]; exact h0)
              · exact l4.op hsh (by omega) hw (by omega)
            · rw [ln]
              exact (pEx_p pe hop hn n5 n11).1 q hw hq
            · exact (pEx_p pe hop hn n5 n11).2 Fl hFl
          · have sh3 : wk_sh op = 3 := by
              rw [z_eq, hop] at h11
              simp only [Int32.reduceToInt] at h11
              rw [h11]
              rfl
            unfold w_M_expression_L133
            refine ⟨fun h0 => go _ _ f (fun q hq hw => ?_) (fun q hw hq => ⟨fun _ => ?_, fun h9 => absurd h9 (by decide)⟩) (fun Fl hFl => ?_), fun h0 => go _ _ f (fun q hq hw => ?_) (fun q hw hq => ⟨fun h9 => absurd h9 (by decide), fun _ => ?_⟩) (fun Fl hFl => ?_)⟩
            · have := hw.1 (.inr (.inr sh3))
              subst this
              rw [z_le, l3] at h0
              simp only [Int32.reduceToInt] at h0
              cases s with
              | nil => exact .inl ⟨rfl, l4.fin l2 (by rw [hsh]; exact sh3)⟩
              | cons x t => simp only [List.length_cons] at h0; omega
            · have hl0 : s.length = 0 := by
                rw [z_le, l3] at h0
                simp only [Int32.reduceToInt] at h0
                omega
              rw [hl0]
              exact (pEx_e pe hop h11).1 q hw hq
            · exact (pEx_e2 pe hop h11) Fl hFl
            · have := hw.1 (.inr (.inr sh3))
              subst this
              rw [z_le, l3] at h0
              simp only [Int32.reduceToInt] at h0
              cases s with
              | nil => simp only [List.length_nil] at h0; omega
              | cons x t =>
                refine .inr ⟨rfl, by omega, t, ?_, l4.ends (by rw [hsh]; exact sh3) (by omega)⟩
                rw [z_add, l3]
                simp only [Int32.reduceToInt, List.length_cons] at l5 ⊢
                omega
            · obtain ⟨n, hn9⟩ : ∃ n, s.length = n + 1 := by
                rw [z_le, l3] at h0
                simp only [Int32.reduceToInt] at h0
                exact ⟨s.length - 1, by omega⟩
              have e1n : (x1 + -1).toInt.toNat = n := dec_n (by rw [l3, hn9]) (by rw [← hn9]; exact l5)
              rw [e1n, hn9]
              exact (pEx_e pe hop h11).2 q n hw hq
            · exact (pEx_e2 pe hop h11) Fl hFl
          · rw [z_eq, l3] at hx0
            simp only [Int32.reduceToInt] at hx0
            rw [show s.length = 0 by omega]
            exact pEx_5n pe h5
          · rw [z_in, e11]
            show _ ∧ _ < ((xb_n h ok : Nat) : Int)
            rw [z_eq, l3] at hx0
            simp only [Int32.reduceToInt] at hx0
            omega
          · rw [z_in, e11]
            show _ ∧ _ < ((xb_n h ok : Nat) : Int)
            rw [z_eq, l3] at hx0
            simp only [Int32.reduceToInt] at hx0
            omega
          · rw [z_eq, l3] at hx0
            simp only [Int32.reduceToInt] at hx0
            rw [mH_AA k4] at e13
            subst e13
            rw [mH_o k4, xh_up, if_pos rfl] at hf
            cases s with
            | nil => simp only [List.length_nil] at hx0; omega
            | cons x t =>
              have c1 : (x1 - 1).toNatClampNeg = t.length := by
                rw [z_cl, e11]
                simp only [List.length_cons]
                omega
              rw [c1] at hf ⊢
              have sh2 : wk_sh op = 2 := by
                rw [z_eq, hop] at h5
                simp only [Int32.reduceToInt] at h5
                rw [h5]
                rfl
              refine go x1 x2 _ (fun q hq hw => ?_) (fun q hw hq => ⟨fun h9 => absurd (l1.symm.trans h9) (by decide), fun _ => ?_⟩) (fun Fl hFl => ?_)
              rotate_left
              · rw [ln]
                exact (pEx_5 pe hop h5 hf).1 q hw hq
              · exact (pEx_5 pe hop h5 hf).2 Fl hFl
              have := hw.1 (.inr (.inl sh2))
              subst this
              obtain ⟨o, xe⟩ := x
              cases xe with
              | some e' =>
                have := l4.2.2.1.2.1 e' rfl
                rw [this] at hf
                exact absurd hf (by decide)
              | none =>
                have ho4 := l4.2.2.1.1 rfl
                rw [hf] at ho4
                have hp5 : cb p = 5 := by
                  rw [← ub_cb (hby p) (by rw [h5]; decide)]
                  exact h5
                exact .inr ⟨l1, by omega, (o, some p) :: t, l3, l4.els (by rw [hsh]; exact sh2) hp5 ho4.symm (by omega)⟩
          · rw [z_eq, l3] at hx0
            simp only [Int32.reduceToInt] at hx0
            rw [mH_o k4, xh_up, if_pos rfl] at hf
            obtain ⟨n, hn9⟩ : ∃ n, s.length = n + 1 := ⟨s.length - 1, by omega⟩
            have c1 : (x1 - 1).toNatClampNeg = n := by
              rw [z_cl, e11]
              omega
            rw [c1] at hf
            rw [hn9]
            exact pEx_5f pe h5 hf
        refine ⟨fun k => L74 (.inl k), fun k => ⟨fun k' => L74 (.inr k'), fun k' => ?_⟩⟩
        rw [z_lt, hop] at k k'
        simp only [Int32.reduceToInt] at k k'
        have L60 : ∀ v' : Nat → Int32, (v' = v1 ∧ s.length < 200) ∨ (ro hv0 v' a0 (p + 1) e ∧ v' 17 ≠ 0 ∧ xk hv0 v' (p + 1) P0) → w_M_expression_L60 (w_M_expression_L4 Qr (m + 1)) Qr mm x1 x2 v4 (ub cb p) (mH h (va_up F ok f) mm v') := by
          intro v' hv
          unfold w_M_expression_L60
          refine ⟨hs.1, ok, k1, k2, ?_, fun h5 e5 => ?_⟩
          · rw [z_in, l3]
            show _ ∧ _ < ((xb_n h ok : Nat) : Int)
            omega
          · rw [mH_AA k4] at e5
            subst e5
            rcases hv with ⟨hv, hl⟩ | ⟨hv, hn, hkx⟩
            · subst hv
              have c1 : x1.toNatClampNeg = s.length := by
                rw [z_cl, l3]
                omega
              rw [c1]
              have hcb : ub cb p = cb p := ub_cb (hby p) (by omega)
              have sh1 : wk_sh op = 1 := wk_sh_o (by omega) (by omega)
              refine go _ x2 _ (fun q hq hw => ?_) (fun q hw hq => ⟨fun h9 => absurd (l1.symm.trans h9) (by decide), fun _ => ?_⟩) (fun Fl hFl => ?_)
              rotate_left
              · have e1n : (x1 + 1).toInt.toNat = s.length + 1 := inc_n l3 (Nat.le_of_lt hl)
                rw [e1n]
                exact (pEx_o pe hop (by omega) (by omega) hl).1 q hw hq
              · exact (pEx_o pe hop (by omega) (by omega) hl).2 Fl hFl
              rw [sh1] at hw
              have hq2 := (rW_1i.mp hw).1
              subst hq2
              refine .inr ⟨l1, by omega, (p, none) :: s, ?_, ?_⟩
              · rw [z_add, l3]
                simp only [Int32.reduceToInt, List.length_cons]
                omega
              · rw [hcb]
                exact l4.opens l2 (by rw [hsh]; exact sh1) (by rw [← hcb, hop]; omega) hw (hby (p + 1)) hl
            · exact die _ _ _ v' hv hn hkx
        refine ⟨fun n2 => L60 v1 (.inl ⟨rfl, ?_⟩), fun n2 => ?_⟩
        · rw [z_eq, l3] at n2
          simp only [Int32.reduceToInt] at n2
          omega
        · have l200 : s.length = 200 := by
            rw [z_eq, l3] at n2
            simp only [Int32.reduceToInt] at n2
            omega
          exact f_fail (Fl := (10, p)) hs.1 P1 (o1.bs hb) (by decide) v4p p1m ⟨rfl, rfl⟩ (fun v' g1 g2 g3 _ => L60 v' (.inr ⟨ho1.tr g1, g2, flt v' (p + 1) 10 (pEx_of pe hop (by omega) (by omega) l200) g2 g3⟩))
    · exact dead (m + 1) p x1 x2 f v ho hz (hE.1 hz)
theorem x_expression {Qr : xb_H → Prop} (hs : rdH mm st N b e cb h F) (hby : ∀ j, -128 ≤ (cb j).toInt ∧ (cb j).toInt ≤ 127) (k24 : xb_r h mm 24 = some ok ∧ xb_k h ok = 102 ∧ xb_n h ok = 202 ∧ ok ≠ mm ∧ st ≠ ok) (hp : rdP v b p e) (hb : bs_ v e)
    (hQ : ∀ (v' : Nat → Int32) (p' : Nat) (f' : Nat → Int32), ro v v' p p' e → (v' 17 = 0 → exR cb p p') → xk v v' p' (pExp cb e p) → Qr (mH h (va_up F ok f') mm v')) : w_M_expression mm (mH h F mm v) Qr := by
  unfold w_M_expression
  refine ⟨e - p + 1 + 1, ?_⟩
  have := x_expressionL hs hby k24 v hQ (e - p + 1) p 0 1 (F ok) v hp hb (ro.rf hp.1 hp.2.2.2) (Nat.le_refl _) (fun _ => .inr ⟨rfl, Nat.le_refl p, [], rfl, exI.beg⟩) ⟨fun h9 => ⟨fun _ => ⟨rfl, rfl⟩, fun h8 => absurd h8 h9⟩, fun _ => ⟨fun h9 => absurd h9 (by decide), fun _ v' p' hk => hk⟩⟩
  rw [va_id] at this
  exact this
end RF7
